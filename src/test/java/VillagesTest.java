/** Promises 1 to 10: a new object, and what a valley is told. */
public final class VillagesTest {
    private static final Check CHECK = new Check();

    public static void main(String[] args) {
        newObject();
        villages();
        hears();
        wood();
        temper();
        friendOf();
        change();
        need();
        undo();
        heard();
        CHECK.end();
    }

    private static void newObject() {
        BlindBells x = new BlindBells();
        CHECK.due("new: count(0)", x.count(0), 4);
        for (int what = 1; what <= 4; what++) {
            CHECK.due("new: count(" + what + ")", x.count(what), 0);
        }
        for (int bell = 0; bell < 4; bell++) {
            CHECK.due("new: rope(" + bell + ")", x.rope(bell), bell);
            for (int wind = 0; wind < 4; wind++) {
                CHECK.due("new: heard(" + bell + ", " + wind + ")", x.heard(bell, wind), 0);
            }
        }
        CHECK.status("new", x, 0, 0, 0);
        CHECK.due("new: digest()", x.digest(), Check.digest(4, 0, 0, 0, 0,
            0, 0, 0, 0, 0, 0, 0, 0, 1, 1, 0, 0, 0, 0, 0, 2, 2, 0, 0, 0, 0, 0, 3, 3, 0, 0, 0, 0));
        CHECK.due("new: from(0)", x.from(0), -3);
        CHECK.due("new: from(1)", x.from(1), -3);
    }

    private static void villages() {
        BlindBells x = new BlindBells();
        CHECK.due("villages(2)", x.villages(2), 4);
        CHECK.due("villages(6)", x.villages(6), 2);
        CHECK.due("villages(1)", x.villages(1), -2);
        CHECK.due("villages(7)", x.villages(7), -2);
        CHECK.due("villages(MIN)", x.villages(Integer.MIN_VALUE), -2);
        CHECK.due("refused: count(0)", x.count(0), 6);
        CHECK.status("villages", x, 3, 0, 0);

        long fresh = x.digest();
        x.hears(5, 3, 0, true);
        x.wood(5, 0);
        x.temper(5, 4);
        x.friendOf(5, 0);
        x.change(5, 0);
        x.need(5, 3, 1);
        x.sign(9);
        x.image(1);
        CHECK.due("villages(9) changes nothing", x.villages(9), -2);
        CHECK.due("still a need", x.count(2), 1);
        CHECK.due("villages(6) again", x.villages(6), 6);
        CHECK.due("nothing else told", x.digest(), fresh);
        CHECK.due("nothing shut either: hears", x.hears(5, 3, 0, true), 1);
        CHECK.due("nothing shut either: heard", x.heard(5, 3), 1);
        CHECK.due("images stay", x.from(1), 1);
        CHECK.due("as it was", x.count(3), 1);

        Check.type(x, "text");
        x.villages(3);
        CHECK.due("the text stays", x.count(4), 4);
    }

    private static void hears() {
        BlindBells x = new BlindBells();
        CHECK.due("hears", x.hears(0, 3, 3, true), 1);
        CHECK.due("it is so", x.hears(0, 3, 3, true), -3);
        CHECK.due("heard", x.heard(0, 3), 8);
        CHECK.due("in another wind", x.heard(0, 2), 0);
        CHECK.due("not", x.hears(0, 3, 3, false), 1);
        CHECK.due("not heard", x.heard(0, 3), 0);
        CHECK.due("it is not", x.hears(0, 3, 3, false), -3);
        CHECK.due("its own", x.hears(2, 0, 2, true), -2);
        CHECK.due("its own, not", x.hears(2, 0, 2, false), -2);
        CHECK.due("bell 4 of 4", x.hears(4, 0, 1, true), -2);
        CHECK.due("bell -1", x.hears(-1, 0, 1, true), -2);
        CHECK.due("wind 4", x.hears(0, 4, 1, true), -2);
        CHECK.due("wind -1", x.hears(0, -1, 1, true), -2);
        CHECK.due("village 4 of 4", x.hears(0, 0, 4, true), -2);
        CHECK.due("village -1", x.hears(0, 0, -1, true), -2);
        CHECK.status("hears", x, 8, 2, 0);
        x.hears(1, 0, 2, true);
        x.wood(1, 2);
        CHECK.due("it is so, behind a wood, too", x.hears(1, 0, 2, true), -3);
        CHECK.due("and may be changed there", x.hears(1, 0, 2, false), 1);
    }

    private static void wood() {
        BlindBells x = new BlindBells();
        x.villages(6);
        x.hears(0, 0, 5, true);
        x.hears(0, 2, 5, true);
        x.hears(0, 2, 1, true);
        for (int i = 0; i < 8; i++) {
            CHECK.due("wood " + i, x.wood(0, 5), i);
        }
        CHECK.due("in no wind", x.heard(0, 0), 0);
        CHECK.due("others hear it", x.heard(0, 2), 2);
        CHECK.due("a ninth", x.wood(1, 0), -4);
        x.villages(6);
        x.hears(0, 2, 1, true);
        x.hears(0, 2, 5, true);
        x.wood(0, 5);
        x.wood(0, 1);
        CHECK.due("two of one bell", x.heard(0, 2), 0);
        for (int i = 2; i < 8; i++) {
            x.wood(0, 5);
        }
        CHECK.due("a ninth, its own: BAD goes ahead", x.wood(1, 1), -2);
        CHECK.due("bell 6", x.wood(6, 0), -2);
        CHECK.due("bell -1", x.wood(-1, 0), -2);
        CHECK.due("village 6", x.wood(0, 6), -2);
        CHECK.due("village -1", x.wood(0, -1), -2);
        CHECK.due("count(1)", x.count(1), 8);
        CHECK.status("wood", x, 5, 0, 1);
    }

    private static void temper() {
        BlindBells x = new BlindBells();
        for (int kind = 1; kind <= 5; kind++) {
            CHECK.due("temper(3, " + kind + ")", x.temper(3, kind), kind - 1);
        }
        CHECK.due("temper(3, 6)", x.temper(3, 6), -2);
        CHECK.due("temper(3, -1)", x.temper(3, -1), -2);
        CHECK.due("temper(4, 0)", x.temper(4, 0), -2);
        CHECK.due("temper(-1, 0)", x.temper(-1, 0), -2);
        CHECK.due("as it was", x.temper(3, 0), 5);
        CHECK.due("others are TRUE", x.temper(2, 0), 0);
        CHECK.status("temper", x, 4, 0, 0);
    }

    private static void friendOf() {
        BlindBells x = new BlindBells();
        CHECK.due("friendOf(2, 0)", x.friendOf(2, 0), 2);
        CHECK.due("friendOf(2, 3)", x.friendOf(2, 3), 0);
        CHECK.due("friendOf(2, 4)", x.friendOf(2, 4), -2);
        CHECK.due("friendOf(2, -1)", x.friendOf(2, -1), -2);
        CHECK.due("friendOf(4, 2)", x.friendOf(4, 2), -2);
        CHECK.due("friendOf(-1, 2)", x.friendOf(-1, 2), -2);
        CHECK.due("friendOf(2, 2)", x.friendOf(2, 2), 3);
        CHECK.due("friendOf(2, 1)", x.friendOf(2, 1), 2);
        CHECK.status("friendOf", x, 4, 0, 0);
    }

    private static void change() {
        BlindBells x = new BlindBells();
        CHECK.due("change(0, 1)", x.change(0, 1), 1);
        CHECK.due("change(1, 2)", x.change(1, 2), 1);
        CHECK.due("rope(0)", x.rope(0), 1);
        CHECK.due("rope(1)", x.rope(1), 2);
        CHECK.due("rope(2)", x.rope(2), 0);
        CHECK.due("rope(3)", x.rope(3), 3);
        CHECK.due("change(2, 2)", x.change(2, 2), -2);
        CHECK.due("change(0, 4)", x.change(0, 4), -2);
        CHECK.due("change(4, 0)", x.change(4, 0), -2);
        CHECK.due("change(-1, 0)", x.change(-1, 0), -2);
        CHECK.due("change(0, -1)", x.change(0, -1), -2);
        CHECK.due("rope(0) stays", x.rope(0), 1);
        CHECK.status("change", x, 5, 0, 0);
    }

    private static void need() {
        BlindBells x = new BlindBells();
        CHECK.due("seen by none", x.need(0, 0, 0), 0);
        CHECK.due("seen by all others", x.need(3, 3, 7), 1);
        CHECK.due("seen by itself", x.need(1, 0, 2), -2);
        CHECK.due("seen by itself, too", x.need(1, 0, 15), -2);
        CHECK.due("bits of no village", x.need(1, 0, 16), -2);
        CHECK.due("negative bits", x.need(1, 0, -3), -2);
        CHECK.due("village 4", x.need(4, 0, 1), -2);
        CHECK.due("village -1", x.need(-1, 0, 1), -2);
        CHECK.due("wind 4", x.need(1, 4, 1), -2);
        CHECK.due("wind -1", x.need(1, -1, 1), -2);
        CHECK.due("count(2)", x.count(2), 2);
        for (int i = 2; i < 12; i++) {
            CHECK.due("need " + i, x.need(1, 1, 1), i);
        }
        CHECK.due("a thirteenth", x.need(1, 1, 1), -4);
        CHECK.due("a thirteenth that is BAD", x.need(1, 1, 2), -2);
        CHECK.due("count(2)", x.count(2), 12);
        CHECK.status("need", x, 9, 0, 1);
    }

    private static void undo() {
        BlindBells x = new BlindBells();
        CHECK.due("none", x.undo(), -3);
        x.need(0, 0, 2);
        long one = x.digest();
        x.need(1, 1, 1);
        CHECK.due("undo()", x.undo(), 1);
        CHECK.due("the last one", x.digest(), one);
        CHECK.due("undo()", x.undo(), 0);
        CHECK.due("none again", x.undo(), -3);
        CHECK.due("need", x.need(2, 0, 1), 0);
        CHECK.status("undo", x, 0, 2, 0);
    }

    private static void heard() {
        BlindBells x = new BlindBells();
        x.hears(3, 1, 0, true);
        x.hears(3, 1, 2, true);
        x.hears(3, 0, 1, true);
        CHECK.due("heard(3, 1)", x.heard(3, 1), 5);
        CHECK.due("heard(3, 0)", x.heard(3, 0), 2);
        x.wood(3, 2);
        CHECK.due("behind a wood", x.heard(3, 1), 1);
        x.change(3, 0);
        CHECK.due("whoever rings it", x.heard(3, 1), 1);
        CHECK.due("heard(4, 0)", x.heard(4, 0), -2);
        CHECK.due("heard(-1, 0)", x.heard(-1, 0), -2);
        CHECK.due("heard(0, 4)", x.heard(0, 4), -2);
        CHECK.due("heard(0, -1)", x.heard(0, -1), -2);
        CHECK.status("heard", x, 4, 0, 0);
    }
}
