/** Promises 14 to 17: the valley run, who was due, who rang, who was helped, and what is left of it. */
public final class ValleyRunTest {
    private static final int TRUE = 0, TIT = 1, SULKY = 2, FOND = 3, PROUD = 4, DEAF = 5;
    private static final Check CHECK = new Check();

    public static void main(String[] args) {
        due();
        tit();
        sulky();
        fond();
        proud();
        deaf();
        allAtOnce();
        helped();
        favoursAndLast();
        wrongInputs();
        CHECK.end();
    }

    private static void rang(BlindBells x, String when, int... due) {
        for (int i = 0; i < due.length; i++) {
            CHECK.due(when + ": rang(" + i + ", 1)", x.rang(i, 1), due[i]);
        }
    }

    private static void due() {
        BlindBells x = new BlindBells();
        x.hears(1, 0, 0, true);
        x.hears(2, 0, 0, true);
        x.hears(3, 1, 0, true);
        x.need(0, 0, 14);
        x.need(0, 0, 10);
        x.need(0, 1, 14);
        x.need(0, 2, 14);
        x.need(0, 0, 0);
        CHECK.due("heard and seen", x.rang(0, 0), 6);
        CHECK.due("heard, but one sees it not", x.rang(1, 0), 2);
        CHECK.due("in another wind", x.rang(2, 0), 8);
        CHECK.due("in a wind where none is heard", x.rang(3, 0), 0);
        CHECK.due("seen by none", x.rang(4, 0), 0);
        rang(x, "all are TRUE", 6, 2, 8, 0, 0);
        x.change(1, 3);
        CHECK.due("whoever pulls the rope", x.rang(0, 0), 12);
        CHECK.due("and sees it", x.rang(1, 0), 8);
        CHECK.due("whoever pulls the other rope", x.rang(2, 0), 2);
        x.wood(1, 0);
        CHECK.due("behind a wood", x.rang(0, 0), 4);
    }

    private static void tit() {
        BlindBells x = Valleys.allHear(3);
        x.temper(0, TIT);
        x.temper(1, PROUD);
        x.need(1, 0, 1);
        x.need(1, 0, 1);
        x.need(0, 0, 2);
        x.need(0, 0, 4);
        x.need(1, 0, 1);
        x.need(2, 0, 1);
        // 0 rings for 1 twice; 1 owes, and rings once: still owes, so 1 is no traitor, and 0 rings on
        rang(x, "TIT is paid back", 1, 1, 2, 4, 1, 1);

        x = Valleys.allHear(3);
        x.temper(0, TIT);
        x.temper(1, PROUD);
        x.need(1, 0, 1);
        x.need(0, 0, 2);
        x.need(0, 0, 2);
        x.need(0, 0, 4);
        x.need(1, 0, 1);
        x.need(2, 0, 1);
        x.need(1, 0, 1);
        // the last time that 1 was due it did not ring, whatever came in between; 2 did
        rang(x, "TIT pays back", 1, 2, 0, 4, 0, 1, 0);
        CHECK.due("last(1, 0)", x.last(1, 0), 0);
        CHECK.due("last(2, 0)", x.last(2, 0), 1);

        x = Valleys.allHear(3);
        x.temper(0, TIT);
        x.temper(1, PROUD);
        x.need(0, 0, 2);
        x.need(1, 0, 1);
        x.need(1, 0, 5);
        x.temper(2, TRUE);
        rang(x, "TIT pays back at once", 0, 0, 4);
        x.temper(1, TRUE);
        rang(x, "another temper, another run", 2, 1, 5);

        x = Valleys.allHear(3);
        x.temper(0, TIT);
        x.temper(1, PROUD);
        x.need(0, 0, 0);
        x.need(0, 1, 2);
        x.need(1, 0, 1);
        // 1 did not see the one, was not heard for the other: it never was due
        rang(x, "TIT holds nothing against who was not due", 0, 0, 1);
    }

    private static void sulky() {
        BlindBells x = Valleys.allHear(3);
        x.temper(0, SULKY);
        x.need(0, 0, 0);
        x.need(1, 0, 1);
        x.need(1, 0, 1);
        rang(x, "SULKY sulks once", 0, 0, 1);
        x.temper(0, TIT);
        rang(x, "TIT does not", 0, 1, 1);

        x = Valleys.allHear(3);
        x.temper(0, SULKY);
        x.need(0, 0, 2);
        x.need(1, 0, 1);
        x.need(2, 0, 0);
        x.need(1, 0, 1);
        // its own need was met; another's was not
        rang(x, "SULKY does not sulk", 2, 1, 0, 1);

        x = Valleys.allHear(3);
        x.temper(0, SULKY);
        x.temper(1, PROUD);
        x.need(0, 0, 2);
        x.need(2, 0, 0);
        x.need(1, 0, 1);
        x.need(2, 0, 1);
        // not right ahead, but SULKY is under TIT
        rang(x, "SULKY pays back", 0, 0, 0, 1);
    }

    private static void fond() {
        BlindBells x = Valleys.allHear(3);
        x.temper(0, FOND);
        x.temper(1, PROUD);
        x.temper(2, PROUD);
        x.friendOf(0, 1);
        x.need(0, 0, 6);
        x.need(1, 0, 1);
        x.need(2, 0, 1);
        rang(x, "FOND of 1", 0, 1, 0);
        x.friendOf(0, 2);
        rang(x, "FOND of 2", 0, 0, 1);
        x.friendOf(0, 0);
        rang(x, "FOND of none", 0, 0, 0);
        x.friendOf(0, 1);
        x.temper(0, SULKY);
        rang(x, "SULKY has no use for a friend", 0, 0, 0);
        x.temper(0, FOND);
        x.temper(2, TRUE);
        rang(x, "FOND rings for others as TIT", 4, 1, 1);
    }

    private static void proud() {
        BlindBells x = Valleys.allHear(3);
        x.temper(0, PROUD);
        x.need(1, 0, 1);
        x.need(0, 0, 2);
        x.need(0, 0, 2);
        x.need(1, 0, 1);
        x.need(2, 0, 1);
        x.need(1, 0, 1);
        x.need(1, 0, 1);
        // it owes 1 two, pays two, and nothing to 2
        rang(x, "PROUD", 0, 2, 2, 1, 0, 1, 0);
        x.temper(0, TRUE);
        rang(x, "TRUE", 1, 2, 2, 1, 1, 1, 1);
    }

    private static void deaf() {
        BlindBells x = Valleys.allHear(3);
        x.temper(0, DEAF);
        x.temper(1, PROUD);
        x.need(0, 0, 2);
        x.need(1, 0, 1);
        x.need(2, 0, 1);
        rang(x, "DEAF rings, though refused, and let down right ahead", 0, 1, 1);
        x.temper(0, SULKY);
        rang(x, "SULKY does not", 0, 0, 1);
    }

    private static void allAtOnce() {
        BlindBells x = Valleys.allHear(4);
        for (int v = 0; v < 4; v++) {
            x.temper(v, PROUD);
        }
        x.temper(3, TRUE);
        x.need(0, 0, 14);
        x.need(3, 0, 7);
        x.need(1, 0, 13);
        x.need(3, 0, 7);
        rang(x, "by what was ahead", 8, 1, 8, 2);
    }

    private static void helped() {
        BlindBells x = Valleys.allHear(3);
        CHECK.due("helped(-1) of none", x.helped(-1), 0);
        x.temper(2, PROUD);
        x.need(0, 0, 6);
        x.need(0, 0, 4);
        x.need(0, 0, 2);
        x.need(1, 0, 5);
        x.need(2, 1, 3);
        CHECK.due("helped(-1)", x.helped(-1), 3);
        CHECK.due("helped(0)", x.helped(0), 2);
        CHECK.due("helped(1)", x.helped(1), 1);
        CHECK.due("helped(2)", x.helped(2), 0);
        x.undo();
        x.undo();
        CHECK.due("undone: helped(-1)", x.helped(-1), 2);
        CHECK.due("undone: helped(1)", x.helped(1), 0);
    }

    private static void favoursAndLast() {
        BlindBells x = Valleys.allHear(3);
        x.temper(2, PROUD);
        for (int i = 0; i < 3; i++) {
            x.need(0, 0, 2);
        }
        x.need(0, 0, 4);
        CHECK.due("favours(1, 0)", x.favours(1, 0), 3);
        CHECK.due("favours(0, 1)", x.favours(0, 1), 0);
        CHECK.due("favours(2, 0)", x.favours(2, 0), 0);
        CHECK.due("last(1, 0)", x.last(1, 0), 1);
        CHECK.due("last(0, 1)", x.last(0, 1), -1);
        CHECK.due("last(2, 0)", x.last(2, 0), 0);
        CHECK.due("last(2, 1)", x.last(2, 1), -1);
        x.need(2, 0, 1);
        x.need(0, 0, 4);
        CHECK.due("favours(2, 0) behind what it owes", x.favours(2, 0), 1);
        CHECK.due("last(2, 0) is the last one", x.last(2, 0), 1);
        x.need(0, 0, 4);
        CHECK.due("last(2, 0), once more", x.last(2, 0), 0);
        CHECK.due("favours(2, 0), once more", x.favours(2, 0), 1);
        x.undo();
        CHECK.due("last(2, 0), undone", x.last(2, 0), 1);
    }

    private static void wrongInputs() {
        BlindBells x = Valleys.allHear(3);
        x.need(0, 0, 2);
        CHECK.due("rang(1, 0)", x.rang(1, 0), -2);
        CHECK.due("rang(-1, 0)", x.rang(-1, 0), -2);
        CHECK.due("rang(0, 2)", x.rang(0, 2), -2);
        CHECK.due("rang(0, -1)", x.rang(0, -1), -2);
        CHECK.due("rang(12, 1)", x.rang(12, 1), -2);
        CHECK.status("rang", x, 5, 0, 0);
        CHECK.due("helped(3)", x.helped(3), -2);
        CHECK.due("helped(-2)", x.helped(-2), -2);
        CHECK.status("helped", x, 7, 0, 0);
        CHECK.due("favours(1, 1)", x.favours(1, 1), -2);
        CHECK.due("favours(3, 1)", x.favours(3, 1), -2);
        CHECK.due("favours(1, 3)", x.favours(1, 3), -2);
        CHECK.due("favours(-1, 1)", x.favours(-1, 1), -2);
        CHECK.due("favours(1, -1)", x.favours(1, -1), -2);
        CHECK.status("favours", x, 12, 0, 0);
        CHECK.due("last(1, 1)", x.last(1, 1), -2);
        CHECK.due("last(3, 1)", x.last(3, 1), -2);
        CHECK.due("last(1, 3)", x.last(1, 3), -2);
        CHECK.due("last(-1, 1)", x.last(-1, 1), -2);
        CHECK.due("last(1, -1)", x.last(1, -1), -2);
        CHECK.due("last never due: no refusal", x.last(2, 1), -1);
        CHECK.status("last", x, 17, 0, 0);
    }
}
