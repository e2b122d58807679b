/** Promises 23 to 26: signs, and from which bell a stroke came. */
public final class SignsTest {
    private static final Check CHECK = new Check();

    public static void main(String[] args) {
        sign();
        clearSigns();
        came();
        ask();
        wrongInputs();
        CHECK.end();
    }

    private static void sign() {
        BlindBells x = new BlindBells();
        CHECK.due("sign(0)", x.sign(0), -2);
        CHECK.due("sign(256)", x.sign(256), -2);
        CHECK.due("sign(-1)", x.sign(-1), -2);
        CHECK.due("sign(255)", x.sign(255), 0);
        CHECK.due("sign(255) again", x.sign(255), -2);
        for (int i = 1; i < 6; i++) {
            CHECK.due("sign " + i, x.sign(i), i);
        }
        CHECK.due("a seventh", x.sign(6), -4);
        CHECK.due("a seventh that is alike", x.sign(3), -2);
        CHECK.due("count(3)", x.count(3), 6);
        CHECK.status("sign", x, 5, 0, 1);
    }

    private static BlindBells signs(int... strokes) {
        BlindBells x = new BlindBells();
        for (int s : strokes) {
            x.sign(s);
        }
        return x;
    }

    private static void clearSigns() {
        CHECK.due("none", signs().clearSigns(), -1);
        CHECK.due("one", signs(1).clearSigns(), -1);
        CHECK.due("two that are clear", signs(1, 16).clearSigns(), -1);
        CHECK.due("both at once", signs(1, 16, 17).clearSigns(), 102);
        CHECK.due("3 beats later", signs(1, 9).clearSigns(), 31);
        CHECK.due("4 beats later is too late", signs(1, 17).clearSigns(), -1);
        CHECK.due("the second one later, though it is the first sign", signs(2, 16, 20).clearSigns(), 1012);
        CHECK.due("beyond 8 beats is not heard", signs(192, 193, 1).clearSigns(), 201);
        CHECK.due("one of the two is no other", signs(255, 17).clearSigns(), -1);
        CHECK.due("a later a, with itself", signs(3, 1).clearSigns(), 1110);
        CHECK.due("alike ones are heard as another", signs(5, 15).clearSigns(), 11);
        CHECK.due("the first b", signs(1, 4, 2, 6, 5).clearSigns(), 24);
        CHECK.due("the first a", signs(128, 1, 3, 129).clearSigns(), 103);
        CHECK.due("a sign's beats go off", signs(128, 255, 127).clearSigns(), 201);
        CHECK.status("clearSigns", signs(1), 0, 0, 0);
    }

    private static BlindBells valley() {
        BlindBells x = new BlindBells();
        x.villages(5);
        int[][] heard = {{0, 1}, {0, 2}, {0, 3}, {1, 2}, {1, 3}, {2, 3}, {3, 2}, {3, 4}};
        for (int[] h : heard) {
            x.hears(h[0], 1, h[1], true);
        }
        x.hears(4, 0, 0, true);
        return x;
    }

    private static void came() {
        BlindBells x = valley();
        CHECK.due("nothing is known", x.came(1, 0, 0), 31);
        CHECK.due("heard in 3", x.came(1, 8, 0), 7);
        CHECK.due("heard in 2 and 3", x.came(1, 12, 0), 3);
        CHECK.due("heard in 3, not in 2", x.came(1, 8, 4), 4);
        CHECK.due("not heard in 3", x.came(1, 0, 8), 24);
        CHECK.due("not heard in 2 and 3", x.came(1, 0, 12), 16);
        CHECK.due("heard in all", x.came(1, 31, 0), 0);
        CHECK.due("in wind 0", x.came(0, 1, 30), 16);
        x.wood(0, 3);
        CHECK.due("behind a wood", x.came(1, 8, 0), 6);
        CHECK.due("behind a wood, not heard", x.came(1, 0, 8), 25);
        x.change(0, 4);
        CHECK.due("whoever rings it", x.came(1, 8, 0), 6);
    }

    private static void ask() {
        BlindBells x = valley();
        // of all five bells two or three are heard in 2, three in 3
        CHECK.due("nothing is known", x.ask(1, 0, 0), 2);
        CHECK.due("2 is known: 1 and 3 part three bells alike", x.ask(1, 4, 0), 1);
        CHECK.due("2 is known, not", x.ask(1, 0, 4), 3);
        CHECK.due("2 and 3 are known", x.ask(1, 12, 0), 1);
        CHECK.due("one bell is left", x.ask(1, 8, 4), -1);
        CHECK.due("no bell is left", x.ask(1, 31, 0), -1);
        CHECK.due("none parts them in wind 2", x.ask(2, 0, 0), -1);
        CHECK.due("in wind 0", x.ask(0, 0, 0), 0);
        CHECK.due("in wind 0, but 0 is known", x.ask(0, 0, 1), -1);
        x.wood(1, 2);
        x.wood(3, 2);
        CHECK.due("behind woods", x.ask(1, 0, 0), 3);
        CHECK.status("none is no refusal", x, 0, 0, 0);
    }

    private static void wrongInputs() {
        int[][] wrong = {{-1, 0, 0}, {4, 0, 0}, {0, 32, 0}, {0, -1, 0}, {0, 0, 32}, {0, 0, -1}, {0, 3, 6},
            {0, Integer.MIN_VALUE, 0}, {Integer.MAX_VALUE, 0, 0}};
        BlindBells x = valley();
        for (int[] w : wrong) {
            CHECK.due("came(" + w[0] + ", " + w[1] + ", " + w[2] + ")", x.came(w[0], w[1], w[2]), -2);
            CHECK.due("ask(" + w[0] + ", " + w[1] + ", " + w[2] + ")", x.ask(w[0], w[1], w[2]), -2);
        }
        CHECK.status("came and ask", x, 2 * wrong.length, 0, 0);
    }
}
