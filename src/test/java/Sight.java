/** All that can be seen of a valley but STATUS, as lines of text. It is spent then: its images and text were used. */
final class Sight {
    private static final int WINDS = 4;
    private final StringBuilder seen = new StringBuilder();
    private final BlindBells x;

    private Sight(BlindBells x) {
        this.x = x;
    }

    static String of(BlindBells x) {
        Sight sight = new Sight(x);
        sight.told();
        sight.run();
        sight.ropes();
        sight.signs();
        sight.images();
        sight.text();
        return sight.seen.toString();
    }

    static String firstUnlike(String some, String others) {
        String[] a = some.split("\n");
        String[] b = others.split("\n");
        for (int i = 0; i < Math.min(a.length, b.length); i++) {
            if (!a[i].equals(b[i])) {
                return a[i] + ", and was: " + b[i];
            }
        }
        return a.length + " lines, and there were " + b.length;
    }

    private void line(String what, long answer) {
        seen.append(what).append(" is ").append(answer).append('\n');
    }

    private void told() {
        line("digest()", x.digest());
        for (int what = 0; what <= 4; what++) {
            line("count(" + what + ")", x.count(what));
        }
        for (int bell = 0; bell < x.count(0); bell++) {
            line("rope(" + bell + ")", x.rope(bell));
        }
        heard();
    }

    /** The woods told are in the digest; whether they shut ears is here. */
    private void heard() {
        for (int bell = 0; bell < x.count(0); bell++) {
            for (int wind = 0; wind < WINDS; wind++) {
                line("heard(" + bell + ", " + wind + ")", x.heard(bell, wind));
            }
        }
    }

    private void run() {
        int n = x.count(0);
        int needs = x.count(2);
        for (int need = 0; need < needs; need++) {
            line("rang(" + need + ", 0)", x.rang(need, 0));
            line("rang(" + need + ", 1)", x.rang(need, 1));
        }
        line("helped(-1)", x.helped(-1));
        for (int by = 0; by < n; by++) {
            int of = (by + 1) % n;
            line("favours(" + by + ", " + of + ")", x.favours(by, of));
            line("last(" + by + ", " + of + ")", x.last(by, of));
        }
    }

    private void ropes() {
        int n = x.count(0);
        for (int bell = -1; bell < n; bell++) {
            line("ropes(" + bell + ")", x.ropes(bell));
        }
        for (int i = -1; i < n; i++) {
            line("ring(" + i + ")", x.ring(i));
        }
        for (int wind = 0; wind < WINDS; wind++) {
            line("word(0, " + wind + ", 0)", x.word(0, wind, 0));
            line("word(0, " + wind + ", 1)", x.word(0, wind, 1));
        }
        line("fell()", x.fell());
    }

    private void signs() {
        line("clearSigns()", x.clearSigns());
        for (int wind = 0; wind < WINDS; wind++) {
            line("came(" + wind + ", 1, 2)", x.came(wind, 1, 2));
            line("ask(" + wind + ", 0, 0)", x.ask(wind, 0, 0));
        }
    }

    private void images() {
        for (int i = 0; i < 2; i++) {
            line("from(" + i + ")", x.from(i));
            line("digest() from it", x.digest());
            heard();
        }
    }

    private void text() {
        line("read()", x.read());
        line("digest() as read", x.digest());
        heard();
        line("clear()", x.clear());
    }
}
