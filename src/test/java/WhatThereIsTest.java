/** Promises 27 to 31: images, what was refused, how many there are, the digest. */
public final class WhatThereIsTest {
    private static final Check CHECK = new Check();

    public static void main(String[] args) {
        images();
        status();
        count();
        digest();
        CHECK.end();
    }

    private static void fill(BlindBells x) {
        x.villages(3);
        x.hears(0, 1, 2, true);
        x.hears(2, 3, 0, true);
        x.hears(2, 3, 1, true);
        x.wood(0, 2);
        x.wood(2, 1);
        x.temper(1, 5);
        x.friendOf(2, 0);
        x.change(0, 2);
        x.need(0, 3, 6);
        x.need(2, 1, 3);
        x.sign(200);
        x.sign(7);
    }

    private static void images() {
        BlindBells x = new BlindBells();
        CHECK.due("from(0), none kept", x.from(0), -3);
        CHECK.due("image(0)", x.image(0), 1);
        CHECK.due("from(1), none kept", x.from(1), -3);
        long empty = x.digest();
        fill(x);
        long filled = x.digest();
        CHECK.due("image(1)", x.image(1), 1);
        CHECK.due("from(0)", x.from(0), 1);
        CHECK.due("empty again", x.digest(), empty);
        CHECK.due("four villages again", x.count(0), 4);
        x.sign(99);
        x.need(3, 0, 1);
        CHECK.due("from(0) once more", x.from(0), 1);
        CHECK.due("an image does not go on with it", x.digest(), empty);
        CHECK.due("from(1)", x.from(1), 1);
        CHECK.due("filled again", x.digest(), filled);
        CHECK.due("woods shut again", x.heard(2, 3), 1);
        CHECK.due("rung as before", x.rang(0, 1), 0);
        x.undo();
        CHECK.due("an image may be kept again", x.image(0), 1);
        x.villages(2);
        x.from(0);
        CHECK.due("the later one", x.count(2), 1);
        Check.type(x, "abc");
        x.from(1);
        CHECK.due("the text is not kept", x.count(4), 3);
        CHECK.due("image(2)", x.image(2), -2);
        CHECK.due("image(-1)", x.image(-1), -2);
        CHECK.due("from(2)", x.from(2), -2);
        CHECK.due("from(-1)", x.from(-1), -2);
        CHECK.status("status is not kept", x, 4, 2, 0);
    }

    private static void status() {
        BlindBells x = new BlindBells();
        CHECK.due("status(3)", x.status(3), -1);
        CHECK.due("status(-1)", x.status(-1), -1);
        CHECK.due("status(MIN)", x.status(Integer.MIN_VALUE), -1);
        CHECK.status("another what counts as BAD", x, 3, 0, 0);
        x.undo();
        x.hears(0, 0, 1, false);
        x.from(0);
        CHECK.status("NO", x, 3, 3, 0);
        for (int i = 0; i < 9; i++) {
            x.wood(0, 1);
        }
        for (int i = 0; i < 13; i++) {
            x.need(0, 0, 2);
        }
        for (int i = 1; i < 8; i++) {
            x.sign(i);
        }
        for (int i = 0; i < 32; i++) {
            x.type(0, 8);
        }
        CHECK.status("FULL", x, 3, 3, 4);
        x.image(0);
        x.count(5);
        x.from(0);
        x.villages(2);
        CHECK.status("not kept, not forgotten", x, 4, 3, 4);
        // answers that only look like refusals
        x.fell();
        x.ring(7);
        x.read();
        x.ask(0, 0, 0);
        x.last(0, 1);
        x.clearSigns();
        CHECK.status("no refusals", x, 4, 3, 4);
    }

    private static void count() {
        BlindBells x = new BlindBells();
        fill(x);
        x.need(1, 1, 1);
        x.sign(1);
        x.sign(2);
        Check.type(x, "texts");
        int[] due = {3, 2, 3, 4, 5};
        for (int what = 0; what < 5; what++) {
            CHECK.due("count(" + what + ")", x.count(what), due[what]);
        }
        CHECK.due("count(5)", x.count(5), -2);
        CHECK.due("count(-1)", x.count(-1), -2);
        CHECK.status("count", x, 2, 0, 0);
    }

    private static void digest() {
        BlindBells x = new BlindBells();
        fill(x);
        Check.type(x, "12345");
        CHECK.due("digest()", x.digest(), Check.digest(3, 2, 2, 2, 5,
            0, 0, 2, 0, 4, 0, 0,
            5, 1, 1, 0, 0, 0, 0,
            0, 0, 0, 0, 0, 0, 3,
            0, 2, 2, 1,
            0, 3, 6, 2, 1, 3,
            200, 7));
        x.rope(9);
        CHECK.due("a refused call leaves it", x.digest(), Check.digest(3, 2, 2, 2, 5,
            0, 0, 2, 0, 4, 0, 0,
            5, 1, 1, 0, 0, 0, 0,
            0, 0, 0, 0, 0, 0, 3,
            0, 2, 2, 1,
            0, 3, 6, 2, 1, 3,
            200, 7));
        CHECK.status("digest is no refusal", x, 1, 0, 0);
    }
}
