/** Promises 18 to 22: the best ropes, ropes as they are, rings of favours, a word, woods to be felled. */
public final class RopesTest {
    private static final Check CHECK = new Check();

    public static void main(String[] args) {
        ropes();
        rope();
        ring();
        word();
        fell();
        CHECK.end();
    }

    private static void ropesAre(BlindBells x, String when, int most, int... rings) {
        CHECK.due(when + ": ropes(-1)", x.ropes(-1), most);
        for (int bell = 0; bell < rings.length; bell++) {
            CHECK.due(when + ": ropes(" + bell + ")", x.ropes(bell), rings[bell]);
        }
    }

    private static void ropes() {
        BlindBells x = new BlindBells();
        x.change(0, 3);
        ropesAre(x, "no need: the first way, whatever the ropes are", 0, 0, 1, 2, 3);
        x.hears(0, 0, 1, true);
        x.need(1, 0, 12);
        // 2 or 3 must ring bell 0
        ropesAre(x, "2 sees it first", 1, 2, 0, 1, 3);
        x.need(1, 0, 8);
        ropesAre(x, "3 sees both", 2, 3, 0, 1, 2);
        x.hears(0, 3, 3, true);
        // 3 hears bell 0 in another wind, so that it must not ring it
        ropesAre(x, "3 hears it", 1, 2, 0, 1, 3);
        x.wood(0, 3);
        ropesAre(x, "3 hears it not behind a wood", 2, 3, 0, 1, 2);
        x.hears(1, 2, 0, true);
        ropesAre(x, "0 hears bell 1", 2, 3, 1, 0, 2);
        x.wood(0, 1);
        ropesAre(x, "no bell is heard where the need is", 0, 0, 1, 2, 3);
        CHECK.due("ropes as they are stay", x.rope(0), 3);
        CHECK.status("ropes", x, 0, 0, 0);
        CHECK.due("ropes(4)", x.ropes(4), -10);
        CHECK.due("ropes(-2)", x.ropes(-2), -10);
        CHECK.status("-10 counts as BAD", x, 2, 0, 0);

        x = new BlindBells();
        x.villages(2);
        x.hears(0, 0, 1, true);
        x.hears(1, 0, 0, true);
        x.change(0, 1);
        x.need(1, 0, 1);
        ropesAre(x, "each its own", 1, 0, 1);

        x = new BlindBells();
        x.villages(6);
        x.hears(5, 0, 0, true);
        for (int i = 0; i < 12; i++) {
            x.need(0, 0, 2);
        }
        ropesAre(x, "six villages, twelve needs", 12, 0, 2, 3, 4, 5, 1);
    }

    private static void rope() {
        BlindBells x = new BlindBells();
        x.villages(6);
        CHECK.due("rope(5)", x.rope(5), 5);
        x.change(5, 1);
        CHECK.due("rope(5)", x.rope(5), 1);
        CHECK.due("rope(1)", x.rope(1), 5);
        CHECK.due("rope(6)", x.rope(6), -2);
        CHECK.due("rope(-1)", x.rope(-1), -2);
        CHECK.status("rope", x, 2, 0, 0);
    }

    private static void ringIs(BlindBells x, String when, int... villages) {
        CHECK.due(when + ": ring(-1)", x.ring(-1), villages.length);
        for (int i = 0; i < villages.length; i++) {
            CHECK.due(when + ": ring(" + i + ")", x.ring(i), villages[i]);
        }
        CHECK.due(when + ": ring one more", x.ring(villages.length), -5);
    }

    private static void ring() {
        BlindBells x = new BlindBells();
        x.villages(6);
        ringIs(x, "none");
        x.hears(0, 0, 1, true);
        x.hears(1, 1, 2, true);
        x.hears(2, 2, 3, true);
        x.hears(3, 3, 4, true);
        x.hears(4, 0, 5, true);
        ringIs(x, "a chain is none");
        x.hears(5, 0, 0, true);
        ringIs(x, "all of them, in any wind", 0, 1, 2, 3, 4, 5);
        x.hears(5, 0, 2, true);
        ringIs(x, "fewer", 2, 3, 4, 5);
        x.hears(3, 0, 0, true);
        ringIs(x, "as few, from a lesser one on", 0, 1, 2, 3);
        x.hears(4, 0, 3, true);
        ringIs(x, "two", 3, 4);
        x.hears(5, 0, 4, true);
        ringIs(x, "two others come behind", 3, 4);
        x.wood(4, 3);
        ringIs(x, "behind a wood", 4, 5);
        CHECK.due("ring(MAX)", x.ring(Integer.MAX_VALUE), -5);
        CHECK.status("-5 is no refusal", x, 0, 0, 0);
        CHECK.due("ring(-2)", x.ring(-2), -10);
        CHECK.status("-10 counts as BAD", x, 1, 0, 0);

        x = new BlindBells();
        x.hears(0, 0, 2, true);
        x.hears(2, 0, 1, true);
        x.hears(1, 0, 0, true);
        x.hears(0, 0, 1, true);
        x.hears(1, 0, 3, true);
        x.hears(3, 0, 0, true);
        x.wood(1, 0);
        ringIs(x, "by numbers, behind the first, too", 0, 1, 3);

        x = new BlindBells();
        x.hears(0, 0, 1, true);
        x.hears(1, 0, 0, true);
        ringIs(x, "favours go from who rings", 0, 1);
        x.change(0, 1);
        ringIs(x, "one that hears what it rings is no ring");
        x.change(1, 2);
        // 1 rings bell 0, heard in 1; 2 rings bell 1, heard in 0; 0 rings bell 2
        ringIs(x, "nor this");
        x.hears(2, 0, 2, true);
        x.hears(2, 0, 3, true);
        x.hears(3, 0, 2, true);
        x.hears(0, 0, 2, true);
        // 0 to 3 to 2 to 0
        ringIs(x, "as ropes are", 0, 3, 2);
    }

    private static void word() {
        BlindBells x = new BlindBells();
        x.villages(6);
        CHECK.due("none hears: rounds", x.word(3, 0, 0), 0);
        CHECK.due("none hears: who knows", x.word(3, 0, 1), 8);
        x.hears(0, 0, 1, true);
        x.hears(0, 0, 2, true);
        x.hears(1, 0, 3, true);
        x.hears(2, 0, 3, true);
        x.hears(3, 0, 0, true);
        x.hears(3, 1, 4, true);
        CHECK.due("rounds", x.word(0, 0, 0), 2);
        CHECK.due("who knows", x.word(0, 0, 1), 15);
        CHECK.due("from 3: rounds", x.word(3, 0, 0), 2);
        CHECK.due("from 1: rounds", x.word(1, 0, 0), 3);
        CHECK.due("from 5: who knows", x.word(5, 0, 1), 32);
        CHECK.due("in wind 1", x.word(3, 1, 1), 24);
        x.wood(0, 1);
        CHECK.due("behind a wood: who knows", x.word(0, 0, 1), 13);
        x.change(0, 5);
        CHECK.due("ropes as they are: who knows", x.word(0, 0, 1), 1);
        CHECK.due("ropes as they are: 5 rings bell 0", x.word(5, 0, 1), 32 + 4 + 8 + 1);
        CHECK.due("ropes as they are: rounds", x.word(5, 0, 0), 3);
        CHECK.due("village 6", x.word(6, 0, 0), -2);
        CHECK.due("village -1", x.word(-1, 0, 0), -2);
        CHECK.due("wind 4", x.word(0, 4, 0), -2);
        CHECK.due("wind -1", x.word(0, -1, 0), -2);
        CHECK.due("what 2", x.word(0, 0, 2), -2);
        CHECK.due("what -1", x.word(0, 0, -1), -2);
        CHECK.status("word", x, 6, 0, 0);

        x = new BlindBells();
        x.villages(6);
        for (int v = 0; v < 5; v++) {
            x.hears(v, 2, v + 1, true);
        }
        CHECK.due("all along: rounds", x.word(0, 2, 0), 5);
        CHECK.due("all along: who knows", x.word(0, 2, 1), 63);
    }

    private static void fell() {
        BlindBells x = new BlindBells();
        CHECK.due("no needs", x.fell(), 0);
        x.hears(1, 0, 0, true);
        x.hears(2, 0, 0, true);
        x.wood(3, 2);
        CHECK.due("no needs, a wood", x.fell(), 0);
        x.wood(1, 0);
        x.wood(1, 0);
        x.wood(2, 0);
        x.need(0, 0, 2);
        CHECK.due("two in one place", x.fell(), 6);
        x.need(0, 0, 6);
        CHECK.due("two needs by the same", x.fell(), 6);
        x.undo();
        x.undo();
        x.need(0, 0, 6);
        CHECK.due("the fewest", x.fell(), 8);
        x.hears(3, 0, 0, true);
        x.wood(3, 0);
        x.need(0, 0, 8);
        CHECK.due("one for each", x.fell(), 24);
        x.undo();
        x.need(0, 0, 12);
        CHECK.due("one for both", x.fell(), 8);
        x.need(0, 1, 14);
        CHECK.due("none is heard in that wind", x.fell(), -1);
        x.undo();
        x.need(1, 0, 0);
        CHECK.due("seen by none", x.fell(), -1);
        x.undo();
        x.change(2, 3);
        CHECK.due("ropes as they are: 2 rings bell 3", x.fell(), 16);
        x.undo();
        x.need(0, 0, 8);
        CHECK.due("ropes as they are: 3 rings bell 2", x.fell(), 24);
        CHECK.due("woods stand", x.count(1), 5);
        CHECK.due("woods shut", x.heard(2, 0), 0);
        CHECK.status("none is no refusal", x, 0, 0, 0);

        x = new BlindBells();
        x.hears(1, 0, 0, true);
        for (int i = 0; i < 8; i++) {
            x.wood(1, 0);
        }
        x.need(0, 0, 2);
        CHECK.due("all eight", x.fell(), 255);

        x = new BlindBells();
        x.hears(1, 0, 0, true);
        x.hears(2, 0, 0, true);
        x.hears(3, 0, 0, true);
        x.wood(1, 2);
        x.wood(3, 0);
        x.wood(1, 0);
        x.wood(2, 0);
        x.need(0, 0, 14);
        CHECK.due("of like ones the least bits", x.fell(), 2);
        x.need(0, 0, 6);
        CHECK.due("one of both, as few: the least bits", x.fell(), 4);

        x = new BlindBells();
        x.hears(0, 0, 1, true);
        x.wood(0, 1);
        x.need(1, 0, 1);
        CHECK.due("bell 0", x.fell(), 1);
        x.villages(4);
        x.hears(0, 0, 1, true);
        x.need(1, 0, 1);
        CHECK.due("nothing is left of earlier woods", x.fell(), 0);
    }
}
