import java.lang.reflect.Method;
import java.nio.file.Files;
import java.nio.file.Path;
import java.util.regex.Matcher;
import java.util.regex.Pattern;

/** The calls that README.md shows, in their order on one object: each answers the number behind it. */
public final class ReadmeTest {
    private static final Pattern SHOWN = Pattern.compile("valley\\.(\\w+)\\((.*)\\); +// (-?\\d+)\\b.*");
    private static final Check CHECK = new Check();

    public static void main(String[] args) throws Exception {
        BlindBells valley = new BlindBells();
        int shown = 0;
        for (String line : Files.readAllLines(Path.of("README.md"))) {
            Matcher call = SHOWN.matcher(line);
            if (call.matches()) {
                shown++;
                CHECK.due(line, answer(valley, call.group(1), call.group(2)), Long.parseLong(call.group(3)));
            } else if (line.startsWith("valley.")) {
                CHECK.due("shown without an answer: " + line, 1, 0);
            }
        }
        CHECK.due("some calls are shown", shown > 0 ? 1 : 0, 1);
        CHECK.end();
    }

    private static long answer(BlindBells valley, String name, String told) throws Exception {
        String[] words = told.isEmpty() ? new String[0] : told.split(", ");
        for (Method method : BlindBells.class.getMethods()) {
            if (method.getName().equals(name)) {
                Object[] values = new Object[words.length];
                for (int i = 0; i < words.length; i++) {
                    values[i] = value(words[i], method.getParameterTypes()[i]);
                }
                return ((Number) method.invoke(valley, values)).longValue();
            }
        }
        throw new IllegalArgumentException("README.md shows a call that is none: " + name);
    }

    private static Object value(String word, Class<?> type) {
        if (type == boolean.class) {
            return Boolean.valueOf(word);
        }
        if (type == long.class) {
            return Long.decode(word.replace("L", ""));
        }
        return word.equals("BlindBells.NONE") ? (Object) BlindBells.NONE : Integer.valueOf(word);
    }
}
