/** Long runs of calls on the program and on Model: the answers must be alike. The same runs each time. */
public final class ModelTest {
    private static final int RUNS = 900;
    /** An object has 512 calls; the longest step, a tale of 250 bytes, has some 40 of them. */
    private static final int CALLS = 460;
    private static final String[] WORDS = {"villages", "hears", "wood", "temper", "friend", "need", "bell", "woo", "x"};
    private static final int[] NUMBERS = {1, 3, 2, 2, 2, 3, 1, 2, 0};

    private final Check check = new Check();
    private long seed = 20261118;
    private BlindBells x;
    private Model m;
    private String call;
    private int calls;

    public static void main(String[] args) {
        new ModelTest().go();
    }

    private void go() {
        for (int run = 0; run < RUNS; run++) {
            x = new BlindBells();
            m = new Model();
            calls = 0;
            // some runs are of wild numbers, most of such as are mostly taken
            int wild = run % 5 == 0 ? 3 : 40;
            begin(run % 4);
            while (calls < CALLS) {
                step(run, wild);
            }
        }
        check.end();
    }

    private void begin(int how) {
        switch (how) {
            case 0: manyLikeWays(); break;
            case 1: temperAgainstTemper(); break;
            case 2: ringAfterRing(); break;
            default: // as it is at first
        }
    }

    /** A valley in which much is heard, much is shut, and few needs are seen by most. */
    private void manyLikeWays() {
        int n = 4 + below(3);
        due("villages", x.villages(n), m.villages(n));
        for (int i = 0; i < 4 * n * n; i++) {
            int bell = i % n;
            int wind = i / n % 4;
            int village = i / n / 4;
            if (below(5) != 0) {
                due("hears", x.hears(bell, wind, village, true), m.hears(bell, wind, village, true));
            }
        }
        int shut = below(n);
        for (int i = 0; i < 8; i++) {
            int bell = below(n);
            due("wood", x.wood(bell, shut), m.wood(bell, shut));
        }
        for (int i = below(4); i >= 0; i--) {
            int wind = below(4);
            int seen = (1 << n) - 1 - (1 << shut) & ~(1 << below(n));
            due("need", x.need(shut, wind, seen), m.need(shut, wind, seen));
            due("fell", x.fell(), m.fell());
            due("ropes", x.ropes(-1), m.ropes(-1));
            for (int bell = 0; bell < n; bell++) {
                due("ropes", x.ropes(bell), m.ropes(bell));
            }
        }
    }

    /** Few villages, each heard in all others, and twelve needs, so that much is owed, refused and paid back. */
    private void temperAgainstTemper() {
        int n = 2 + below(3);
        due("villages", x.villages(n), m.villages(n));
        for (int i = 0; i < n * n; i++) {
            int bell = i / n;
            int village = i % n;
            due("hears", x.hears(bell, 0, village, true), m.hears(bell, 0, village, true));
        }
        for (int i = 0; i < 12; i++) {
            int v = below(n);
            int seen = (1 << n) - 1 & ~(1 << v) & ~(below(3) == 0 ? 1 << below(n) : 0);
            due("need", x.need(v, 0, seen), m.need(v, 0, seen));
        }
        for (int i = 0; i < 16; i++) {
            int v = below(n);
            int temper = below(6);
            int friend = below(n);
            due("temper", x.temper(v, temper), m.temper(v, temper));
            due("friendOf", x.friendOf(v, friend), m.friendOf(v, friend));
            due("favours", x.favours(v, friend), m.favours(v, friend));
            due("last", x.last(v, friend), m.last(v, friend));
            for (int need = 0; need < 12; need++) {
                due("rang", x.rang(need, 1), m.rang(need, 1));
            }
        }
    }

    /** Few bells are heard, so that rings are long, and there are not many of them. */
    private void ringAfterRing() {
        int n = 5 + below(2);
        due("villages", x.villages(n), m.villages(n));
        for (int i = 0; i < n; i++) {
            int a = below(n);
            int b = below(n);
            due("change", x.change(a, b), m.change(a, b));
        }
        for (int i = 0; i < 40; i++) {
            int bell = below(n);
            int wind = below(4);
            int village = below(n);
            // once there are some, one is told off for one told
            boolean is = i < 8 || below(2) == 0;
            due("hears", x.hears(bell, wind, village, is), m.hears(bell, wind, village, is));
            for (int at = -1; at < n; at++) {
                due("ring", x.ring(at), m.ring(at));
            }
        }
    }

    private int below(int n) {
        seed = seed * 6364136223846793005L + 1442695040888963407L;
        return (int) ((seed >>> 33) % n);
    }

    private int number(int low, int high, int wild) {
        if (below(wild) == 0) {
            int[] odd = {-2, -1, high + 1, Integer.MAX_VALUE, Integer.MIN_VALUE, 16, 63, 64, 255, 256, 7, 12};
            return odd[below(odd.length)];
        }
        return low + below(high - low + 1);
    }

    private void step(int run, int wild) {
        int n = m.count(0);
        int v = number(0, n - 1, wild);
        int w = number(0, n - 1, wild);
        int wind = number(0, below(4), wild);
        int bits = number(0, (1 << n) - 1, wild);
        int two = number(0, 1, wild);
        int asked = number(-1, n - 1, wild);
        int kind = below(100);
        if (kind < 45) {
            tell(kind, wild, v, w, wind, bits);
        } else if (kind < 50) {
            text(kind);
        } else {
            ask(kind, wild, new int[] {v, w, wind, bits, two, asked});
        }
        if (kind < 50) {
            due("run " + run + ", call " + calls + ", behind " + call + ": digest", x.digest(), m.digest());
        }
    }

    private void due(String name, long got, long want) {
        calls++;
        call = name;
        check.due(name, got, want);
    }

    private void tell(int kind, int wild, int v, int w, int wind, int bits) {
        if (kind < 1) {
            int n = number(2, 6, wild);
            due("villages", x.villages(n), m.villages(n));
        } else if (kind < 17) {
            boolean is = below(4) != 0;
            due("hears", x.hears(v, wind, w, is), m.hears(v, wind, w, is));
        } else if (kind < 20) {
            due("wood", x.wood(v, w), m.wood(v, w));
        } else if (kind < 25) {
            int temper = number(0, 5, wild);
            due("temper", x.temper(v, temper), m.temper(v, temper));
        } else if (kind < 27) {
            due("friendOf", x.friendOf(v, w), m.friendOf(v, w));
        } else if (kind < 30) {
            due("change", x.change(v, w), m.change(v, w));
        } else if (kind < 38) {
            int seen = v >= 0 && v < 6 && below(8) != 0 ? bits & ~(1 << v) : bits;
            due("need", x.need(v, wind, seen), m.need(v, wind, seen));
        } else if (kind < 41) {
            due("undo", x.undo(), m.undo());
        } else if (kind < 43) {
            int strokes = below(2) == 0 ? number(1, 255, wild) : 1 << below(8) | 1 << below(8);
            due("sign", x.sign(strokes), m.sign(strokes));
        } else if (kind < 44) {
            int at = number(0, 1, wild);
            due("image", x.image(at), m.image(at));
        } else {
            int at = number(0, 1, wild);
            due("from", x.from(at), m.from(at));
        }
    }

    private void text(int kind) {
        if (kind < 46) {
            due("clear", x.clear(), m.clear());
        } else if (kind < 48) {
            long bytes = seed * 31;
            int n = below(10);
            due("type", x.type(bytes, n), m.type(bytes, n));
        } else {
            if (below(4) != 0) {
                due("clear", x.clear(), m.clear());
            }
            typeTale();
        }
        due("read", x.read(), m.read());
    }

    private void typeTale() {
        StringBuilder tale = new StringBuilder("villages " + (below(20) == 0 ? below(10) : 3 + below(4)) + ";");
        int items = below(16);
        // one word alone may tell more than there is room for
        int alone = below(3) == 0 ? 1 + below(5) : 0;
        for (int i = 0; i < items; i++) {
            int word = below(60) == 0 ? below(WORDS.length) : alone != 0 ? alone : 1 + below(5);
            tale.append(WORDS[word]);
            for (int k = 0; k < NUMBERS[word]; k++) {
                // the second of hears and need is a wind; mostly small ones are taken
                tale.append(below(40) == 0 ? "" : " ").append(below(60) == 0 ? below(120) : k == 2 ? 2 * below(2) : k);
            }
            tale.append(below(60) == 0 ? "" : ";").append(below(10) == 0 ? "  " : "");
        }
        if (below(4) == 0) {
            tale.setCharAt(below(tale.length()), (char) below(256));
        }
        for (int from = 0; from < tale.length(); from += 8) {
            int to = Math.min(from + 8, tale.length());
            long bytes = 0;
            for (int i = from; i < to; i++) {
                bytes = bytes << 8 | tale.charAt(i);
            }
            due("type", x.type(bytes, to - from), m.type(bytes, to - from));
        }
    }

    private void ask(int kind, int wild, int[] k) {
        int heardIn = k[3] & number(0, 63, wild);
        int not = below(6) == 0 ? k[3] : k[3] & ~heardIn & number(0, 63, wild);
        switch (kind % 17) {
            case 0: due("heard", x.heard(k[0], k[2]), m.heard(k[0], k[2])); break;
            case 1:
            case 2:
                int need = number(0, 11, wild);
                due("rang", x.rang(need, k[4]), m.rang(need, k[4]));
                break;
            case 3: due("helped", x.helped(k[5]), m.helped(k[5])); break;
            case 4: due("favours", x.favours(k[0], k[1]), m.favours(k[0], k[1])); break;
            case 5: due("last", x.last(k[0], k[1]), m.last(k[0], k[1])); break;
            case 6: due("ropes", x.ropes(k[5]), m.ropes(k[5])); break;
            case 7: due("rope", x.rope(k[0]), m.rope(k[0])); break;
            case 8:
            case 9: due("ring", x.ring(k[5]), m.ring(k[5])); break;
            case 10: due("word", x.word(k[0], k[2], k[4]), m.word(k[0], k[2], k[4])); break;
            case 11: due("fell", x.fell(), m.fell()); break;
            case 12: due("clearSigns", x.clearSigns(), m.clearSigns()); break;
            case 13: due("came", x.came(k[2], heardIn, not), m.came(k[2], heardIn, not)); break;
            case 14: due("ask", x.ask(k[2], heardIn, not), m.ask(k[2], heardIn, not)); break;
            case 15:
                int what = number(0, 2, wild);
                due("status", x.status(what), m.status(what));
                break;
            default:
                int of = number(0, 4, wild);
                due("count", x.count(of), m.count(of));
        }
    }
}
