/** Counts the answers that are not the ones due. */
final class Check {
    private int wrong;
    private int asked;

    void due(String call, long got, long want) {
        asked++;
        if (got != want) {
            wrong++;
            System.out.println(call + " answered " + got + ", due is " + want);
        }
    }

    /** What was refused till now as BAD, NO, FULL. */
    void status(String when, BlindBells x, int bad, int no, int full) {
        due(when + ": status(0)", x.status(0), bad);
        due(when + ": status(1)", x.status(1), no);
        due(when + ": status(2)", x.status(2), full);
    }

    void end() {
        System.out.println(wrong == 0 ? asked + " answers are as due" : wrong + " answers are not as due");
        if (wrong != 0) {
            System.exit(1);
        }
    }

    /** Eight bytes at a call, so that a long text leaves calls for what is asked: an object has 512. */
    static void type(BlindBells x, String text) {
        for (int from = 0; from < text.length(); from += 8) {
            int to = Math.min(from + 8, text.length());
            long bytes = 0;
            for (int i = from; i < to; i++) {
                bytes = bytes << 8 | text.charAt(i);
            }
            x.type(bytes, to - from);
        }
    }

    /** The text, and no other one, is read. */
    static int read(BlindBells x, String text) {
        x.clear();
        type(x, text);
        return x.read();
    }

    /** The digest's rule over values written out by hand. */
    static long digest(long... values) {
        long h = 727;
        for (long v : values) {
            h = 31 * h + v;
        }
        return h;
    }
}
