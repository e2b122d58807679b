import java.util.ArrayList;
import java.util.List;

/**
 * Calls at the edges of what is taken. Each is tried on a valley of its own; a call that is refused, or only asks, must
 * leave all that can be seen as it is in a twin of that valley that never had the call.
 */
final class Edge {
    interface Call {
        long on(BlindBells x);
    }

    /** A call of which one number is tried. */
    interface NumberCall {
        long on(BlindBells x, int number);
    }

    private static final int BAD = 0, NO = 1, FULL = 2, NOT_REFUSED = -1;
    /** Numbers far out, and such as a shift, a byte or a short would take for small ones. */
    private static final int[] ODD = {Integer.MIN_VALUE, Integer.MIN_VALUE + 1, -65536, -256, -64, -33, -32, -31, -10,
        -8, -5, -4, -3, -2, -1, 0, 1, 2, 3, 4, 5, 6, 7, 8, 12, 16, 31, 32, 33, 63, 64, 128, 250, 255, 256, 257, 65536,
        Integer.MAX_VALUE - 1, Integer.MAX_VALUE};

    private final Check check = new Check();

    void due(String what, long got, long want) {
        check.due(what, got, want);
    }

    /** The call is taken: it answers so, and STATUS does not count it. */
    void taken(String what, Valleys valley, Call call, long answer) {
        tried(what, valley.make(), call, answer, NOT_REFUSED);
    }

    /** The call is taken, and changes nothing. */
    void asked(String what, Valleys valley, Call call, long answer) {
        unchanged(what, valley, call, answer, NOT_REFUSED);
    }

    void bad(String what, Valleys valley, Call call) {
        unchanged(what, valley, call, BlindBells.BAD, BAD);
    }

    /** Counts as BAD, but is answered -10, since NONE asks something there. */
    void badApart(String what, Valleys valley, Call call) {
        unchanged(what, valley, call, -10, BAD);
    }

    /** Counts as BAD, but is answered NONE, as status is. */
    void badAsNone(String what, Valleys valley, Call call) {
        unchanged(what, valley, call, BlindBells.NONE, BAD);
    }

    void no(String what, Valleys valley, Call call) {
        unchanged(what, valley, call, BlindBells.NO, NO);
    }

    void full(String what, Valleys valley, Call call) {
        unchanged(what, valley, call, BlindBells.FULL, FULL);
    }

    /** Each number outside of low .. high is BAD. */
    void badOutside(String what, int low, int high, Valleys valley, NumberCall call) {
        for (int number : numbersOutside(low, high)) {
            bad(what + " " + number, valley, x -> call.on(x, number));
        }
    }

    /** The call is BAD for each village there is: told of itself, or alike. */
    void badForEach(String what, Valleys valley, NumberCall call) {
        for (int v = 0; v < valley.n; v++) {
            int village = v;
            bad(what + " " + v, valley, x -> call.on(x, village));
        }
    }

    void end() {
        check.end();
    }

    static List<Integer> numbersOutside(int low, int high) {
        List<Integer> numbers = new ArrayList<>(List.of(low - 1, high + 1));
        for (int odd : ODD) {
            if (odd < low - 1 || odd > high + 1) {
                numbers.add(odd);
            }
        }
        return numbers;
    }

    private void unchanged(String what, Valleys valley, Call call, long answer, int reason) {
        BlindBells x = valley.make();
        tried(what, x, call, answer, reason);
        String seen = Sight.of(x);
        if (!seen.equals(valley.sight())) {
            check.due(what + " changes nothing, but " + Sight.firstUnlike(seen, valley.sight()), 1, 0);
        }
    }

    private void tried(String what, BlindBells x, Call call, long answer, int reason) {
        int[] before = status(x);
        check.due(what, call.on(x), answer);
        int[] after = status(x);
        for (int i = BAD; i <= FULL; i++) {
            check.due(what + ": status(" + i + ")", after[i], before[i] + (i == reason ? 1 : 0));
        }
    }

    private static int[] status(BlindBells x) {
        return new int[] {x.status(BAD), x.status(NO), x.status(FULL)};
    }
}
