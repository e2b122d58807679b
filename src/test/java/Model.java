import java.util.ArrayList;
import java.util.HashSet;
import java.util.List;
import java.util.Set;
import java.util.regex.Matcher;
import java.util.regex.Pattern;

/**
 * The document once more, as plainly as it can be: all ways are listed and the best one picked, nothing is precomputed.
 * It shares no line with the program, so that a slip in one shows as a difference.
 */
final class Model {
    /** What an image keeps. */
    private static final class State {
        int n = 4;
        final Set<List<Integer>> hears = new HashSet<>();
        final List<int[]> woods = new ArrayList<>();
        final List<int[]> needs = new ArrayList<>();
        final List<Integer> signs = new ArrayList<>();
        final int[] temper = new int[6];
        final int[] friend = {0, 1, 2, 3, 4, 5};
        int[] rope = {0, 1, 2, 3, 4, 5};

        State copy() {
            State s = new State();
            s.n = n;
            s.hears.addAll(hears);
            s.woods.addAll(woods);
            s.needs.addAll(needs);
            s.signs.addAll(signs);
            System.arraycopy(temper, 0, s.temper, 0, 6);
            System.arraycopy(friend, 0, s.friend, 0, 6);
            s.rope = rope.clone();
            return s;
        }

        boolean village(int v) {
            return 0 <= v && v < n;
        }

        boolean bits(int b) {
            return (b & ~((1 << n) - 1)) == 0;
        }

        boolean heard(int bell, int wind, int village, int felled) {
            for (int i = 0; i < woods.size(); i++) {
                boolean stands = (felled >> i & 1) == 0;
                if (stands && woods.get(i)[0] == bell && woods.get(i)[1] == village) {
                    return false;
                }
            }
            return hears.contains(List.of(bell, wind, village));
        }

        Set<Integer> due(int[] need, int[] ropes, int felled) {
            Set<Integer> due = new HashSet<>();
            for (int v = 0; v < n; v++) {
                for (int bell = 0; bell < n; bell++) {
                    boolean sees = (need[2] >> v & 1) == 1;
                    if (sees && ropes[bell] == v && heard(bell, need[1], need[0], felled)) {
                        due.add(v);
                    }
                }
            }
            return due;
        }
    }

    private State s = new State();
    private final State[] images = new State[2];
    private final StringBuilder text = new StringBuilder();
    private final int[] status = new int[3];

    private int bad() {
        status[0]++;
        return -2;
    }

    private int no() {
        status[1]++;
        return -3;
    }

    private int full() {
        status[2]++;
        return -4;
    }

    private static boolean wind(int w) {
        return 0 <= w && w <= 3;
    }

    int villages(int n) {
        if (n < 2 || n > 6) {
            return bad();
        }
        int was = s.n;
        s = new State();
        s.n = n;
        return was;
    }

    int hears(int bell, int wind, int village, boolean is) {
        if (!s.village(bell) || !wind(wind) || !s.village(village) || bell == village) {
            return bad();
        }
        List<Integer> it = List.of(bell, wind, village);
        return (is ? s.hears.add(it) : s.hears.remove(it)) ? 1 : no();
    }

    int wood(int bell, int village) {
        if (!s.village(bell) || !s.village(village) || bell == village) {
            return bad();
        }
        if (s.woods.size() == 8) {
            return full();
        }
        s.woods.add(new int[] {bell, village});
        return s.woods.size() - 1;
    }

    int temper(int village, int kind) {
        if (!s.village(village) || kind < 0 || kind > 5) {
            return bad();
        }
        int was = s.temper[village];
        s.temper[village] = kind;
        return was;
    }

    int friendOf(int village, int other) {
        if (!s.village(village) || !s.village(other)) {
            return bad();
        }
        int was = s.friend[village];
        s.friend[village] = other;
        return was;
    }

    int change(int a, int b) {
        if (!s.village(a) || !s.village(b) || a == b) {
            return bad();
        }
        int[] changed = s.rope.clone();
        changed[a] = s.rope[b];
        changed[b] = s.rope[a];
        s.rope = changed;
        return 1;
    }

    int need(int village, int wind, int seen) {
        if (!s.village(village) || !wind(wind) || !s.bits(seen) || (seen & 1 << village) != 0) {
            return bad();
        }
        if (s.needs.size() == 12) {
            return full();
        }
        s.needs.add(new int[] {village, wind, seen});
        return s.needs.size() - 1;
    }

    int undo() {
        if (s.needs.isEmpty()) {
            return no();
        }
        s.needs.remove(s.needs.size() - 1);
        return s.needs.size();
    }

    int heard(int bell, int wind) {
        return s.village(bell) && wind(wind) ? heardBits(bell, wind) : bad();
    }

    private int heardBits(int bell, int wind) {
        int bits = 0;
        for (int v = 0; v < s.n; v++) {
            bits += s.heard(bell, wind, v, 0) ? 1 << v : 0;
        }
        return bits;
    }

    int type(long v, int n) {
        if (n < 1 || n > 8) {
            return bad();
        }
        if (text.length() + n > 250) {
            return full();
        }
        for (int i = 8 - n; i < 8; i++) {
            text.append((char) (v >>> 56 - 8 * i & 255));
        }
        return text.length();
    }

    int clear() {
        int had = text.length();
        text.setLength(0);
        return had;
    }

    int read() {
        Matcher tokens = Pattern.compile("[a-z]+|[0-9]+|[^ ]", Pattern.DOTALL).matcher(text);
        List<List<String>> items = new ArrayList<>();
        List<String> item = new ArrayList<>();
        while (tokens.find()) {
            item.add(tokens.group());
            if (!canStand(item, items.isEmpty())) {
                return -10 - tokens.start();
            }
            if (tokens.group().equals(";")) {
                items.add(item);
                item = new ArrayList<>();
            }
        }
        if (items.isEmpty() || !item.isEmpty()) {
            return -10 - text.length();
        }
        return play(items);
    }

    /** Whether what was read of an item begins one. */
    private static boolean canStand(List<String> item, boolean first) {
        // a # of the text itself is no number
        String read = String.join(" ", item).replace('#', '?');
        String[] forms = first ? new String[] {"villages # ;"}
            : new String[] {"hears # # # ;", "wood # # ;", "temper # # ;", "friend # # ;", "need # # # ;"};
        String form = read.replaceAll("(?<![0-9])[0-9]{1,2}(?![0-9])", "#");
        for (String whole : forms) {
            if (whole.equals(form) || whole.startsWith(form + " ")) {
                return true;
            }
        }
        return false;
    }

    private int play(List<List<String>> items) {
        State before = s;
        int[] refused = status.clone();
        s = new State();
        int at = 0;
        while (at < items.size() && playOne(items.get(at)) >= 0) {
            at++;
        }
        System.arraycopy(refused, 0, status, 0, 3);
        if (at < items.size()) {
            s = before;
            return -1000 - at;
        }
        return at;
    }

    private int playOne(List<String> item) {
        int[] k = new int[3];
        for (int i = 1; i < item.size() - 1; i++) {
            k[i - 1] = Integer.parseInt(item.get(i));
        }
        switch (item.get(0)) {
            case "villages": return villages(k[0]);
            case "hears": return hears(k[0], k[1], k[2], true);
            case "wood": return wood(k[0], k[1]);
            case "temper": return temper(k[0], k[1]);
            case "friend": return friendOf(k[0], k[1]);
            default: return need(k[0], k[1], k[2]);
        }
    }

    /** Of each need who was due (0), and who rang (1). */
    private List<List<Set<Integer>>> story() {
        List<List<Set<Integer>>> story = new ArrayList<>();
        for (int i = 0; i < s.needs.size(); i++) {
            Set<Integer> due = s.due(s.needs.get(i), s.rope, 0);
            Set<Integer> rang = new HashSet<>();
            for (int v : due) {
                if (rings(s.temper[v], v, s.needs.get(i)[0], story)) {
                    rang.add(v);
                }
            }
            story.add(List.of(due, rang));
        }
        return story;
    }

    /** By the tempers' own order: each asks the one that it is under. */
    private boolean rings(int temper, int v, int of, List<List<Set<Integer>>> ahead) {
        switch (temper) {
            case 0: return true;
            case 1: return rings(0, v, of, ahead) && lastOf(of, v, ahead) != 0;
            case 2:
                int before = ahead.size() - 1;
                boolean down = before >= 0 && s.needs.get(before)[0] == v && ahead.get(before).get(1).isEmpty();
                return rings(1, v, of, ahead) && !down;
            case 3: return s.friend[v] == of || rings(1, v, of, ahead);
            case 4: return rings(0, v, of, ahead) && timesOf(of, v, ahead) > timesOf(v, of, ahead);
            default: return rings(0, v, of, ahead);
        }
    }

    private int timesOf(int by, int of, List<List<Set<Integer>>> story) {
        int times = 0;
        for (int i = 0; i < story.size(); i++) {
            times += s.needs.get(i)[0] == of && story.get(i).get(1).contains(by) ? 1 : 0;
        }
        return times;
    }

    private int lastOf(int by, int of, List<List<Set<Integer>>> story) {
        for (int i = story.size() - 1; i >= 0; i--) {
            if (s.needs.get(i)[0] == of && story.get(i).get(0).contains(by)) {
                return story.get(i).get(1).contains(by) ? 1 : 0;
            }
        }
        return -1;
    }

    int rang(int need, int what) {
        if (need < 0 || need >= s.needs.size() || what < 0 || what > 1) {
            return bad();
        }
        int bits = 0;
        for (int v : story().get(need).get(what)) {
            bits += 1 << v;
        }
        return bits;
    }

    int helped(int village) {
        if (village != -1 && !s.village(village)) {
            return bad();
        }
        List<List<Set<Integer>>> story = story();
        int helped = 0;
        for (int i = 0; i < story.size(); i++) {
            boolean his = village == -1 || s.needs.get(i)[0] == village;
            helped += his && !story.get(i).get(1).isEmpty() ? 1 : 0;
        }
        return helped;
    }

    int favours(int by, int of) {
        return s.village(by) && s.village(of) && by != of ? timesOf(by, of, story()) : bad();
    }

    int last(int by, int of) {
        return s.village(by) && s.village(of) && by != of ? lastOf(by, of, story()) : bad();
    }

    /** All rows of the numbers below n without one twice, of a length, in their order. */
    private static void rows(int n, int length, List<Integer> row, List<List<Integer>> all) {
        if (row.size() == length) {
            all.add(new ArrayList<>(row));
            return;
        }
        for (int i = 0; i < n; i++) {
            if (!row.contains(i)) {
                row.add(i);
                rows(n, length, row, all);
                row.remove(row.size() - 1);
            }
        }
    }

    private boolean everHeard(int bell, int village) {
        boolean heard = false;
        for (int w = 0; w < 4; w++) {
            heard |= s.heard(bell, w, village, 0);
        }
        return heard;
    }

    private int met(int[] ropes, int felled) {
        int met = 0;
        for (int[] need : s.needs) {
            met += s.due(need, ropes, felled).isEmpty() ? 0 : 1;
        }
        return met;
    }

    int ropes(int bell) {
        if (bell != -1 && !s.village(bell)) {
            bad();
            return -10;
        }
        List<List<Integer>> ways = new ArrayList<>();
        rows(s.n, s.n, new ArrayList<>(), ways);
        int most = -1;
        int[] best = null;
        for (List<Integer> way : ways) {
            int[] ropes = new int[s.n];
            boolean deaf = true;
            for (int b = 0; b < s.n; b++) {
                ropes[b] = way.get(b);
                deaf &= !everHeard(b, ropes[b]);
            }
            if (deaf && met(ropes, 0) > most) {
                most = met(ropes, 0);
                best = ropes;
            }
        }
        return bell == -1 || best == null ? most : best[bell];
    }

    int rope(int bell) {
        return s.village(bell) ? s.rope[bell] : bad();
    }

    int ring(int i) {
        if (i < -1) {
            bad();
            return -10;
        }
        List<Integer> ring = firstRing();
        return i == -1 ? ring.size() : i < ring.size() ? ring.get(i) : -5;
    }

    private List<Integer> firstRing() {
        for (int size = 2; size <= s.n; size++) {
            List<List<Integer>> ways = new ArrayList<>();
            rows(s.n, size, new ArrayList<>(), ways);
            for (List<Integer> way : ways) {
                boolean ring = true;
                for (int i = 0; i < size; i++) {
                    ring &= way.get(i) >= way.get(0) && favoursOnce(way.get(i), way.get((i + 1) % size));
                }
                if (ring) {
                    return way;
                }
            }
        }
        return List.of();
    }

    private boolean favoursOnce(int i, int j) {
        boolean favours = false;
        for (int bell = 0; bell < s.n; bell++) {
            favours |= s.rope[bell] == i && everHeard(bell, j);
        }
        return favours;
    }

    int word(int village, int wind, int what) {
        if (!s.village(village) || !wind(wind) || what < 0 || what > 1) {
            return bad();
        }
        Set<Integer> know = new HashSet<>(Set.of(village));
        int rounds = -1;
        boolean more = true;
        while (more) {
            rounds++;
            Set<Integer> next = new HashSet<>();
            for (int bell = 0; bell < s.n; bell++) {
                for (int v = 0; v < s.n; v++) {
                    if (know.contains(s.rope[bell]) && s.heard(bell, wind, v, 0)) {
                        next.add(v);
                    }
                }
            }
            more = know.addAll(next);
        }
        int bits = 0;
        for (int v : know) {
            bits += 1 << v;
        }
        return what == 0 ? rounds : bits;
    }

    int fell() {
        for (int size = 0; size <= s.woods.size(); size++) {
            for (int felled = 0; felled < 1 << s.woods.size(); felled++) {
                if (Integer.bitCount(felled) == size && met(s.rope, felled) == s.needs.size()) {
                    return felled;
                }
            }
        }
        return -1;
    }

    int sign(int strokes) {
        if (strokes <= 0 || strokes >= 256 || s.signs.contains(strokes)) {
            return bad();
        }
        if (s.signs.size() == 6) {
            return full();
        }
        s.signs.add(strokes);
        return s.signs.size() - 1;
    }

    int clearSigns() {
        for (int key = 0; key < 10000; key++) {
            int a = key / 1000;
            int b = key / 100 % 10;
            int later = key / 10 % 10;
            int other = key % 10;
            int k = s.signs.size();
            if (a < k && b < k && later < 4 && other < k && other != a && other != b
                && heardAs(s.signs.get(a), s.signs.get(b), later, s.signs.get(other))) {
                return key;
            }
        }
        return -1;
    }

    private static boolean heardAs(int a, int b, int later, int other) {
        boolean same = true;
        for (int beat = 0; beat < 8; beat++) {
            boolean first = (a & 1 << beat) != 0;
            boolean second = beat >= later && (b & 1 << beat - later) != 0;
            same &= (first || second) == ((other & 1 << beat) != 0);
        }
        return same;
    }

    private List<Integer> bells(int wind, int heardIn, int not) {
        List<Integer> bells = new ArrayList<>();
        for (int bell = 0; bell < s.n; bell++) {
            boolean may = true;
            for (int v = 0; v < s.n; v++) {
                boolean heard = s.heard(bell, wind, v, 0);
                may &= heard ? (not >> v & 1) == 0 : (heardIn >> v & 1) == 0;
            }
            if (may) {
                bells.add(bell);
            }
        }
        return bells;
    }

    int came(int wind, int heardIn, int not) {
        if (!wind(wind) || !s.bits(heardIn) || !s.bits(not) || (heardIn & not) != 0) {
            return bad();
        }
        int bits = 0;
        for (int bell : bells(wind, heardIn, not)) {
            bits += 1 << bell;
        }
        return bits;
    }

    int ask(int wind, int heardIn, int not) {
        if (!wind(wind) || !s.bits(heardIn) || !s.bits(not) || (heardIn & not) != 0) {
            return bad();
        }
        List<Integer> bells = bells(wind, heardIn, not);
        for (int less = bells.size(); less >= 1; less--) {
            for (int v = 0; v < s.n; v++) {
                int heard = 0;
                for (int bell : bells) {
                    heard += s.heard(bell, wind, v, 0) ? 1 : 0;
                }
                boolean rest = ((heardIn | not) >> v & 1) == 0;
                if (rest && Math.min(heard, bells.size() - heard) == less) {
                    return v;
                }
            }
        }
        return -1;
    }

    int image(int i) {
        if (i != 0 && i != 1) {
            return bad();
        }
        images[i] = s.copy();
        return 1;
    }

    int from(int i) {
        if (i != 0 && i != 1) {
            return bad();
        }
        if (images[i] == null) {
            return no();
        }
        s = images[i].copy();
        return 1;
    }

    int status(int what) {
        if (what < 0 || what > 2) {
            bad();
            return -1;
        }
        return status[what];
    }

    int count(int what) {
        int[] counts = {s.n, s.woods.size(), s.needs.size(), s.signs.size(), text.length()};
        return what >= 0 && what < 5 ? counts[what] : bad();
    }

    long digest() {
        List<Integer> values = new ArrayList<>();
        for (int what = 0; what < 5; what++) {
            values.add(count(what));
        }
        for (int v = 0; v < s.n; v++) {
            values.addAll(List.of(s.temper[v], s.friend[v], s.rope[v]));
            for (int w = 0; w < 4; w++) {
                int bits = 0;
                for (int at = 0; at < s.n; at++) {
                    bits += s.hears.contains(List.of(v, w, at)) ? 1 << at : 0;
                }
                values.add(bits);
            }
        }
        s.woods.forEach(w -> values.addAll(List.of(w[0], w[1])));
        s.needs.forEach(k -> values.addAll(List.of(k[0], k[1], k[2])));
        values.addAll(s.signs);
        long h = 727;
        for (int v : values) {
            h = 31 * h + v;
        }
        return h;
    }
}
