import java.math.BigInteger;

/** The edges of promises 27 to 31, a test for each sentence that names one. */
public final class WhatThereIsEdgeTest {
    private static final int CALLS = 512;
    private static final Edge EDGE = new Edge();

    public static void main(String[] args) {
        imageNumbers();
        imageIsKeptAnew();
        imageKeepsAll();
        imageDoesNotGoOn();
        fromNumbers();
        fromNoneKeptIsNo();
        fromBadGoesAheadOfNo();
        fromLeavesTextImagesAndStatus();
        statusNumbers();
        statusAnotherWhatCountsAsBad();
        statusCountsUpToTheLastCall();
        statusAnswersThatAreNoRefusals();
        countNumbers();
        countOfEmptyAndFull();
        digestOfEmptyAndFull();
        digestWrapsAround();
        digestTellsAllApart();
        EDGE.end();
    }

    // ---- 27: an IMAGE is kept: 1. BAD

    private static void imageNumbers() {
        for (Valleys valley : Valleys.ALL) {
            EDGE.badOutside("image", 0, 1, valley, BlindBells::image);
            EDGE.taken("image(0)", valley, x -> x.image(0), 1);
            EDGE.taken("image(1)", valley, x -> x.image(1), 1);
        }
    }

    private static void imageIsKeptAnew() {
        BlindBells x = Valleys.CRAMMED.make();
        x.villages(3);
        long fresh = x.digest();
        EDGE.due("image(1), kept before", x.image(1), 1);
        x.villages(2);
        x.from(1);
        EDGE.due("the later one", x.digest(), fresh);
        x.from(0);
        EDGE.due("the other one is as it was", x.count(2), 1);
    }

    /** What goes on from an image is all that the valley was: the same lines are seen, but for the images. */
    private static void imageKeepsAll() {
        for (Valleys valley : Valleys.ALL) {
            for (int i = 0; i < 2; i++) {
                int at = i;
                Valleys kept = valley.and(x -> x.image(0)).and(x -> x.image(1));
                Valleys gone = kept.and(x -> x.villages(5)).and(x -> x.change(1, 4)).and(x -> x.sign(1));
                if (!Sight.of(gone.and(x -> x.from(at)).make()).equals(kept.sight())) {
                    EDGE.due("all that was kept is back from " + i, 1, 0);
                }
            }
        }
    }

    private static void imageDoesNotGoOn() {
        BlindBells x = new BlindBells();
        long empty = x.digest();
        x.image(0);
        x.image(1);
        x.hears(0, 0, 1, true);
        x.wood(0, 1);
        x.temper(3, 5);
        x.friendOf(3, 0);
        x.change(0, 3);
        x.need(0, 0, 2);
        x.sign(1);
        x.from(0);
        EDGE.due("image 0 has not", x.digest(), empty);
        x.need(0, 0, 2);
        x.from(0);
        EDGE.due("nor from there", x.digest(), empty);
        x.sign(7);
        x.from(1);
        EDGE.due("nor image 1", x.digest(), empty);
    }

    // ---- 28: it goes on from an IMAGE: 1. BAD; NO: none was kept

    private static void fromNumbers() {
        for (Valleys valley : Valleys.ALL) {
            EDGE.badOutside("from", 0, 1, valley, BlindBells::from);
        }
        EDGE.taken("from(0)", Valleys.CRAMMED, x -> x.from(0), 1);
        EDGE.taken("from(1)", Valleys.CRAMMED, x -> x.from(1), 1);
    }

    private static void fromNoneKeptIsNo() {
        EDGE.no("from(0), none kept", Valleys.NEW, x -> x.from(0));
        EDGE.no("from(1), none kept", Valleys.NEW, x -> x.from(1));
        EDGE.no("from(1), 0 alone kept", Valleys.BUSY_6, x -> x.from(1));
        Valleys one = Valleys.of(x -> x.image(1));
        EDGE.no("from(0), 1 alone kept", one, x -> x.from(0));
        EDGE.asked("from(1), kept right now", one, x -> x.from(1), 1);
        EDGE.no("from(1), refused as an image", Valleys.of(x -> x.image(2)), x -> x.from(1));
    }

    private static void fromBadGoesAheadOfNo() {
        EDGE.bad("from(2), none kept", Valleys.NEW, x -> x.from(2));
        EDGE.bad("from(-1), none kept", Valleys.NEW, x -> x.from(-1));
    }

    private static void fromLeavesTextImagesAndStatus() {
        BlindBells x = new BlindBells();
        x.image(0);
        x.need(0, 0, 2);
        x.image(1);
        Check.type(x, "villages 3;");
        x.rope(4);
        x.undo();
        x.undo();
        for (int i = 0; i < 9; i++) {
            x.wood(0, 1);
        }
        EDGE.due("from(0)", x.from(0), 1);
        EDGE.due("the text stays: count(4)", x.count(4), 11);
        EDGE.due("status(0) stays", x.status(0), 1);
        EDGE.due("status(1) stays", x.status(1), 1);
        EDGE.due("status(2) stays", x.status(2), 1);
        EDGE.due("no wood", x.count(1), 0);
        EDGE.due("from(1)", x.from(1), 1);
        EDGE.due("the other image is as it was", x.count(2), 1);
        EDGE.due("the text stays: read()", x.read(), 1);
    }

    // ---- 29: BAD (0), NO (1), FULL (2). -1: another what (counts as BAD)

    private static void statusNumbers() {
        Valleys refused = Valleys.NEW.and(x -> {
            x.rope(4);
            x.undo();
            x.undo();
            for (int i = 0; i < 11; i++) {
                x.wood(0, 1);
            }
        });
        EDGE.asked("BAD", refused, x -> x.status(0), 1);
        EDGE.asked("NO", refused, x -> x.status(1), 2);
        EDGE.asked("FULL", refused, x -> x.status(2), 3);
    }

    private static void statusAnotherWhatCountsAsBad() {
        for (Valleys valley : Valleys.ALL) {
            for (int what : Edge.numbersOutside(0, 2)) {
                EDGE.badAsNone("status " + what, valley, x -> x.status(what));
            }
        }
    }

    /** All calls but the last are refused in one way. */
    private static void statusCountsUpToTheLastCall() {
        BlindBells bad = new BlindBells();
        BlindBells no = new BlindBells();
        BlindBells full = new BlindBells();
        for (int i = 1; i < CALLS; i++) {
            bad.rope(Integer.MIN_VALUE);
            no.undo();
            full.wood(0, 1);
        }
        EDGE.due("refused as BAD", bad.status(0), CALLS - 1);
        EDGE.due("refused as NO", no.status(1), CALLS - 1);
        EDGE.due("refused as FULL, but for eight", full.status(2), CALLS - 1 - 8);
    }

    private static void statusAnswersThatAreNoRefusals() {
        EDGE.asked("NONE of last", Valleys.NEW, x -> x.last(0, 1), -1);
        EDGE.asked("NONE of fell", Valleys.of(x -> x.need(0, 0, 0)), BlindBells::fell, -1);
        EDGE.asked("NONE of clearSigns", Valleys.NEW, BlindBells::clearSigns, -1);
        EDGE.asked("NONE of ask", Valleys.NEW, x -> x.ask(0, 0, 0), -1);
        EDGE.asked("-5 of ring", Valleys.NEW, x -> x.ring(0), -5);
        EDGE.asked("-10 of read", Valleys.NEW, BlindBells::read, -10);
        EDGE.asked("-1000 of read", Valleys.of(x -> Check.type(x, "villages 7;")), BlindBells::read, -1000);
    }

    // ---- 30: 0 VILLAGES, 1 WOODS, 2 NEEDS, 3 SIGNS, 4 bytes of THE TEXT. BAD

    private static void countNumbers() {
        for (Valleys valley : Valleys.ALL) {
            EDGE.badOutside("count", 0, 4, valley, BlindBells::count);
        }
    }

    private static void countOfEmptyAndFull() {
        int[] empty = {4, 0, 0, 0, 0};
        int[] full = {6, 8, 12, 6, 250};
        for (int i = 0; i <= 4; i++) {
            int what = i;
            EDGE.asked("a new one: count(" + what + ")", Valleys.NEW, x -> x.count(what), empty[what]);
            EDGE.asked("a crammed one: count(" + what + ")", Valleys.CRAMMED, x -> x.count(what), full[what]);
        }
        EDGE.asked("the fewest villages", Valleys.BUSY_2, x -> x.count(0), 2);
    }

    // ---- 31: h = 727; then h = 31 h + v for each v

    private static void digestOfEmptyAndFull() {
        EDGE.asked("a new one", Valleys.NEW, BlindBells::digest, Check.digest(4, 0, 0, 0, 0,
            0, 0, 0, 0, 0, 0, 0, 0, 1, 1, 0, 0, 0, 0, 0, 2, 2, 0, 0, 0, 0, 0, 3, 3, 0, 0, 0, 0));
        Valleys two = Valleys.of(x -> x.villages(2));
        EDGE.asked("two villages", two, BlindBells::digest, Check.digest(2, 0, 0, 0, 0,
            0, 0, 0, 0, 0, 0, 0, 0, 1, 1, 0, 0, 0, 0));
        EDGE.asked("a crammed one", Valleys.CRAMMED, BlindBells::digest, Check.digest(crammed()));
    }

    /** The valley CRAMMED, written out by hand from how it is told. */
    private static long[] crammed() {
        return new long[] {6, 8, 12, 6, 250,
            5, 5, 5, 2, 4, 8, 16,
            4, 1, 1, 4, 8, 16, 32,
            3, 2, 2, 8, 16, 32, 1,
            2, 3, 3, 16, 32, 1, 2,
            1, 4, 4, 32, 1, 2, 4,
            0, 5, 0, 1, 2, 4, 8,
            0, 1, 5, 0, 0, 1, 1, 2, 2, 3, 3, 4, 4, 5, 5, 0,
            1, 2, 1, 0, 0, 62, 5, 3, 1,
            3, 3, 55, 4, 0, 47, 5, 1, 31, 0, 2, 62, 1, 3, 61, 2, 0, 59, 3, 1, 55, 4, 2, 47, 5, 3, 31,
            9, 3, 5, 32, 112, 192};
    }

    private static void digestWrapsAround() {
        BigInteger h = BigInteger.valueOf(727);
        for (long v : crammed()) {
            h = h.multiply(BigInteger.valueOf(31)).add(BigInteger.valueOf(v));
        }
        EDGE.due("far beyond a long", h.bitLength() > 64 ? 1 : 0, 1);
        EDGE.due("its lowest 64 bits", Valleys.CRAMMED.make().digest(), h.longValue());
    }

    /** Each thing told is in it, and the woods do not change where a bell is heard. */
    private static void digestTellsAllApart() {
        long empty = new BlindBells().digest();
        Valleys[] told = {Valleys.of(x -> x.villages(5)), Valleys.of(x -> x.hears(3, 3, 0, true)),
            Valleys.of(x -> x.wood(0, 3)), Valleys.of(x -> x.temper(3, 1)), Valleys.of(x -> x.friendOf(3, 0)),
            Valleys.of(x -> x.change(0, 3)), Valleys.of(x -> x.need(3, 3, 7)), Valleys.of(x -> x.sign(255)),
            Valleys.of(x -> x.type(0, 1))};
        for (int i = 0; i < told.length; i++) {
            EDGE.due("thing " + i + " is in the digest", told[i].make().digest() == empty ? 1 : 0, 0);
        }
        Valleys[] notTold = {Valleys.of(x -> x.image(0)), Valleys.of(x -> x.rope(9)), Valleys.of(x -> x.clear())};
        for (int i = 0; i < notTold.length; i++) {
            EDGE.due("images and status are not: " + i, notTold[i].make().digest(), empty);
        }
        Valleys shut = Valleys.of(x -> x.villages(2)).and(x -> x.hears(0, 3, 1, true)).and(x -> x.wood(0, 1));
        EDGE.asked("as if there were no woods", shut, BlindBells::digest, Check.digest(2, 1, 0, 0, 0,
            0, 0, 0, 0, 0, 0, 2, 0, 1, 1, 0, 0, 0, 0, 0, 1));
    }
}
