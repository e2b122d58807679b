import java.lang.reflect.Constructor;
import java.lang.reflect.Field;
import java.lang.reflect.Method;
import java.lang.reflect.Modifier;
import java.util.Set;
import java.util.TreeSet;

/** The public face, and nothing beside it; and some of LANGUAGE.md that can be seen from the class and its text. */
public final class FaceTest {
    private static final String[] FACE = {
        "int villages(int)", "int hears(int,int,int,boolean)", "int wood(int,int)", "int temper(int,int)",
        "int friendOf(int,int)", "int change(int,int)", "int need(int,int,int)", "int undo()", "int heard(int,int)",
        "int type(long,int)", "int clear()", "int read()", "int rang(int,int)", "int helped(int)",
        "int favours(int,int)", "int last(int,int)", "int ropes(int)", "int rope(int)", "int ring(int)",
        "int word(int,int,int)", "int fell()", "int sign(int)", "int clearSigns()", "int came(int,int,int)",
        "int ask(int,int,int)", "int image(int)", "int from(int)", "int status(int)", "int count(int)",
        "long digest()",
    };

    public static void main(String[] args) throws Exception {
        Check check = new Check();
        Class<?> face = BlindBells.class;
        check.due("NONE", BlindBells.NONE, -1);
        check.due("BAD", BlindBells.BAD, -2);
        check.due("NO", BlindBells.NO, -3);
        check.due("FULL", BlindBells.FULL, -4);
        check.due("public final", face.getModifiers(), Modifier.PUBLIC | Modifier.FINAL);

        Set<String> due = new TreeSet<>(Set.of(FACE));
        Set<String> names = new TreeSet<>();
        for (String method : FACE) {
            names.add(method.substring(method.indexOf(' ') + 1, method.indexOf('(')));
        }
        Set<String> there = new TreeSet<>();
        for (Method method : face.getDeclaredMethods()) {
            if (!Modifier.isPrivate(method.getModifiers())) {
                there.add(signature(method));
            } else if (names.contains(method.getName())) {
                check.due("a private method has a public one's name: " + method.getName(), 1, 0);
            }
        }
        if (!there.equals(due)) {
            check.due("methods that are not as told: " + there, 1, 0);
        }
        int constants = 0;
        for (Field field : face.getDeclaredFields()) {
            if (!Modifier.isPrivate(field.getModifiers())) {
                constants++;
            }
        }
        check.due("fields that are not private", constants, 4);
        Constructor<?>[] made = face.getDeclaredConstructors();
        check.due("constructors", made.length, 1);
        check.due("a public one without parameters", made[0].getModifiers() + made[0].getParameterCount(),
            Modifier.PUBLIC);
        for (Class<?> inside : face.getDeclaredClasses()) {
            check.due(inside.getName() + " is static", Modifier.isStatic(inside.getModifiers()) ? 1 : 0, 1);
        }
        check.end();
    }

    private static String signature(Method method) {
        StringBuilder text = new StringBuilder(method.getReturnType().getName());
        text.append(' ').append(method.getName()).append('(');
        for (int i = 0; i < method.getParameterCount(); i++) {
            text.append(i == 0 ? "" : ",").append(method.getParameterTypes()[i].getName());
        }
        return text.append(')').toString();
    }
}
