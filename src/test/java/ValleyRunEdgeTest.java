/** The edges of promises 14 to 17, and of the tempers, a test for each sentence that names one. */
public final class ValleyRunEdgeTest {
    private static final int TRUE = 0, TIT = 1, SULKY = 2, FOND = 3, PROUD = 4, DEAF = 5;
    private static final Edge EDGE = new Edge();

    public static void main(String[] args) {
        dueSeesAndIsHeard();
        dueIsTheOneWhoPullsTheRope();
        dueMayBeNobodyOrAllOthers();
        ringsHerOwnBellForNobody();
        dueThoughItHearsWhatItRings();
        trueAlwaysRings();
        titRingsForWhomNeverWasDue();
        titGoesByTheLastTime();
        titMindsThatOneAlone();
        sulkyHasNoNeedAhead();
        sulkyMindsTheNeedRightAhead();
        sulkyMindsItsOwnNeedAlone();
        sulkyIsUnderTit();
        fondRingsForItsFriendAlone();
        fondOfItselfIsFondOfNone();
        proudOwesNothingAtFirst();
        proudOwesTillItHasPaid();
        proudIsUnderTrueAlone();
        deafRingsAsTrueDoes();
        allAtOnceByWhatWasAhead();
        helpedIfOneRings();
        rangNumbers();
        rangOfNoNeeds();
        rangOfTheLastNeed();
        rangTellsDueFromRang();
        helpedNumbers();
        helpedOfNoneAndOfTwelve();
        favoursNumbers();
        favoursAlikeIsBad();
        favoursOfNoneAndOfTwelve();
        lastNumbers();
        lastAlikeIsBad();
        lastOfWhoNeverWasDue();
        lastIsTheLastTime();
        EDGE.end();
    }

    private static BlindBells allHear(int n, int... tempers) {
        BlindBells x = Valleys.allHear(n);
        for (int v = 0; v < tempers.length; v++) {
            x.temper(v, tempers[v]);
        }
        return x;
    }

    private static void rang(BlindBells x, String when, int... due) {
        for (int i = 0; i < due.length; i++) {
            EDGE.due(when + ": rang(" + i + ", 1)", x.rang(i, 1), due[i]);
        }
    }

    // ---- DUE are those that see it, and ring a BELL that is heard in v in that WIND

    private static void dueSeesAndIsHeard() {
        BlindBells x = new BlindBells();
        x.hears(1, 3, 0, true);
        x.hears(2, 3, 0, true);
        x.hears(3, 2, 0, true);
        x.need(0, 3, 10);
        EDGE.due("1 sees and is heard; 2 is heard alone, 3 sees alone", x.rang(0, 0), 2);
        x.wood(1, 0);
        EDGE.due("1 is not heard any more", x.rang(0, 0), 0);
        x.need(0, 3, 14);
        EDGE.due("2 is, and sees this one", x.rang(1, 0), 4);
        x.hears(2, 3, 0, false);
        EDGE.due("told off, it is not", x.rang(1, 0), 0);
    }

    private static void dueIsTheOneWhoPullsTheRope() {
        BlindBells x = new BlindBells();
        x.hears(1, 0, 0, true);
        x.need(0, 0, 6);
        EDGE.due("1 pulls it", x.rang(0, 0), 2);
        x.change(1, 2);
        EDGE.due("2 pulls it", x.rang(0, 0), 4);
        x.change(1, 3);
        EDGE.due("3 pulls it, and does not see", x.rang(0, 0), 0);
    }

    private static void dueMayBeNobodyOrAllOthers() {
        for (int n = 2; n <= 6; n++) {
            BlindBells x = allHear(n);
            int others = (1 << n) - 2;
            x.need(0, 0, others);
            x.need(0, 0, 0);
            x.need(0, 1, others);
            EDGE.due("all others are due", x.rang(0, 0), others);
            EDGE.due("all others ring", x.rang(0, 1), others);
            EDGE.due("seen by none", x.rang(1, 0), 0);
            EDGE.due("heard by none", x.rang(2, 0), 0);
            EDGE.due("of all these one was helped", x.helped(0), 1);
        }
    }

    /** It does not see its own need, so it never is due for it, whatever it rings. */
    private static void ringsHerOwnBellForNobody() {
        BlindBells x = new BlindBells();
        x.hears(1, 0, 0, true);
        x.change(0, 1);
        x.need(0, 0, 14);
        EDGE.due("0 rings what it hears, and is not due", x.rang(0, 0), 0);
        EDGE.due("nor helped by it", x.helped(0), 0);
    }

    private static void dueThoughItHearsWhatItRings() {
        BlindBells x = new BlindBells();
        x.hears(1, 0, 0, true);
        x.hears(1, 0, 2, true);
        x.change(1, 2);
        x.need(0, 0, 6);
        EDGE.due("2 rings what it hears, and is due", x.rang(0, 0), 4);
        EDGE.due("and rings", x.rang(0, 1), 4);
    }

    // ---- 0 TRUE: it does

    private static void trueAlwaysRings() {
        BlindBells x = allHear(2, TRUE, PROUD);
        x.need(0, 0, 2);
        x.need(1, 0, 1);
        x.need(0, 0, 2);
        x.need(0, 0, 2);
        x.need(1, 0, 1);
        rang(x, "TRUE, though it was refused the last time", 0, 1, 2, 0, 1);
    }

    // ---- 1 TIT: that, but if that one was due to ring for it, and did not, the last time

    private static void titRingsForWhomNeverWasDue() {
        BlindBells x = allHear(2, TIT, PROUD);
        x.need(1, 0, 1);
        rang(x, "the first need of all", 1);
        x = allHear(2, TIT, PROUD);
        x.need(0, 0, 0);
        x.need(1, 0, 1);
        rang(x, "1 did not see it, so was not due", 0, 1);
        x = allHear(2, TIT, PROUD);
        x.need(0, 1, 2);
        x.need(1, 0, 1);
        rang(x, "1 was not heard, so was not due", 0, 1);
    }

    private static void titGoesByTheLastTime() {
        BlindBells x = allHear(2, TIT, PROUD);
        x.need(0, 0, 2);
        x.need(1, 0, 1);
        rang(x, "refused the last time", 0, 0);
        x = allHear(2, TIT, PROUD);
        x.need(1, 0, 1);
        x.need(0, 0, 2);
        x.need(0, 0, 2);
        x.need(1, 0, 1);
        rang(x, "rung for, then refused the last time", 1, 2, 0, 0);
        x = allHear(3, TIT, SULKY);
        x.need(1, 0, 0);
        x.need(0, 0, 2);
        x.need(1, 0, 1);
        x.need(0, 0, 6);
        x.need(1, 0, 1);
        // 1 sulks once; 0 pays it back; 1, let down right ahead, sulks on
        rang(x, "refused twice", 0, 0, 0, 4, 0);
        x.undo();
        x.need(2, 0, 0);
        x.need(0, 0, 0);
        x.need(1, 0, 1);
        rang(x, "what it was not due for does not count as a time", 0, 0, 0, 4, 0, 0, 0);
        x = allHear(2, TIT, PROUD);
        x.need(0, 0, 2);
        x.temper(1, TRUE);
        x.need(0, 0, 2);
        x.need(1, 0, 1);
        rang(x, "rung for the last time", 2, 2, 1);
    }

    private static void titMindsThatOneAlone() {
        BlindBells x = allHear(3, TIT, PROUD, TRUE);
        x.need(0, 0, 2);
        x.need(2, 0, 1);
        x.need(1, 0, 1);
        x.need(1, 0, 4);
        rang(x, "1 refused 0: 0 rings for 2, 2 rings for 1", 0, 1, 0, 4);
    }

    // ---- 2 SULKY: that, and not, if the NEED right ahead of this one was its own, and it was LET DOWN

    private static void sulkyHasNoNeedAhead() {
        BlindBells x = allHear(6, SULKY, SULKY, SULKY, SULKY, SULKY, SULKY);
        x.need(0, 0, 62);
        rang(x, "the first need of all", 62);
        x = allHear(2, SULKY, SULKY);
        x.need(1, 0, 1);
        rang(x, "the first need of all, rung by 0", 1);
    }

    private static void sulkyMindsTheNeedRightAhead() {
        BlindBells x = allHear(3, SULKY);
        x.need(0, 0, 0);
        x.need(1, 0, 1);
        x.need(1, 0, 1);
        rang(x, "right ahead, and two ahead", 0, 0, 1);
        x = allHear(3, SULKY);
        x.need(0, 0, 0);
        x.need(2, 0, 0);
        x.need(1, 0, 1);
        rang(x, "another's in between", 0, 0, 1);
    }

    private static void sulkyMindsItsOwnNeedAlone() {
        BlindBells x = allHear(3, SULKY);
        x.need(2, 0, 0);
        x.need(1, 0, 1);
        rang(x, "another was let down right ahead", 0, 1);
        x = allHear(3, SULKY);
        x.need(0, 0, 2);
        x.need(1, 0, 1);
        rang(x, "its own right ahead, but helped", 2, 1);
    }

    private static void sulkyIsUnderTit() {
        BlindBells x = allHear(3, SULKY, PROUD);
        x.need(0, 0, 6);
        x.need(1, 0, 1);
        x.need(2, 0, 1);
        rang(x, "helped by 2, refused by 1", 4, 0, 1);
    }

    // ---- 3 FOND: for its FRIEND it does; for others as TIT

    private static void fondRingsForItsFriendAlone() {
        BlindBells x = allHear(3, FOND, PROUD, PROUD);
        x.friendOf(0, 2);
        x.need(0, 0, 6);
        x.need(1, 0, 1);
        x.need(2, 0, 1);
        rang(x, "both refused, its friend is 2", 0, 0, 1);
        x = allHear(3, FOND);
        x.friendOf(0, 2);
        x.need(0, 0, 0);
        x.need(1, 0, 1);
        rang(x, "as TIT, not as SULKY", 0, 1);
        x = allHear(3, TIT, PROUD, PROUD);
        x.friendOf(0, 2);
        x.need(0, 0, 6);
        x.need(2, 0, 1);
        rang(x, "TIT has a friend, and is not FOND", 0, 0);
    }

    private static void fondOfItselfIsFondOfNone() {
        BlindBells x = allHear(3, FOND, PROUD, PROUD);
        x.need(0, 0, 6);
        x.need(1, 0, 1);
        x.need(2, 0, 1);
        rang(x, "no friend at first", 0, 0, 0);
        x.friendOf(0, 1);
        x.friendOf(0, 0);
        rang(x, "no friend again", 0, 0, 0);
    }

    // ---- 4 PROUD: that, but not for whom it owes nothing (as often as that one rang for it, or more often)

    private static void proudOwesNothingAtFirst() {
        BlindBells x = allHear(2, PROUD);
        x.need(1, 0, 1);
        rang(x, "none rang for the other: as often", 0);
    }

    private static void proudOwesTillItHasPaid() {
        BlindBells x = allHear(3, PROUD);
        x.need(0, 0, 2);
        x.need(1, 0, 1);
        x.need(1, 0, 1);
        x.need(2, 0, 1);
        rang(x, "owes one, pays one, owes 2 nothing", 2, 1, 0, 0);
        x = allHear(3, TRUE);
        x.need(1, 0, 1);
        x.need(1, 0, 1);
        x.need(0, 0, 2);
        x.temper(1, PROUD);
        x.need(0, 0, 2);
        x.need(0, 0, 2);
        rang(x, "1 owes two, pays two", 1, 1, 2, 2, 0);
        x = allHear(2, DEAF, PROUD);
        x.need(1, 0, 1);
        x.need(0, 0, 2);
        x.need(0, 0, 2);
        x.need(1, 0, 1);
        x.need(1, 0, 1);
        x.need(0, 0, 2);
        rang(x, "rung for more often, it rings", 1, 2, 0, 1, 1, 2);
        x = allHear(2, PROUD, TIT);
        x.temper(0, PROUD);
        x.need(0, 0, 2);
        x.need(0, 0, 2);
        x.need(1, 0, 1);
        x.need(1, 0, 1);
        x.need(1, 0, 1);
        x.need(0, 0, 2);
        // PROUD is under TRUE, not under TIT: only what is owed counts
        rang(x, "two owed, two paid, no third; TIT pays back", 2, 2, 1, 1, 0, 0);
    }

    private static void proudIsUnderTrueAlone() {
        BlindBells x = allHear(2, PROUD, SULKY);
        x.need(0, 0, 2);
        x.need(1, 0, 0);
        x.need(0, 0, 2);
        x.need(1, 0, 1);
        rang(x, "refused the last time, it pays what it owes: not as TIT", 2, 0, 0, 1);
        x = allHear(2, PROUD);
        x.need(0, 0, 2);
        x.need(0, 0, 0);
        x.need(1, 0, 1);
        rang(x, "let down right ahead, it pays: not as SULKY", 2, 0, 1);
        x = allHear(2, PROUD);
        x.friendOf(0, 1);
        x.need(1, 0, 1);
        rang(x, "it owes its friend nothing: not as FOND", 0);
    }

    // ---- 5 DEAF: as TRUE in place of SULKY

    private static void deafRingsAsTrueDoes() {
        BlindBells x = allHear(2, DEAF, PROUD);
        x.need(0, 0, 2);
        x.need(1, 0, 1);
        rang(x, "refused by that one, let down right ahead", 0, 1);
    }

    // ---- each that is DUE rings (all at once, by what was ahead); HELPED, if one rings; else LET DOWN

    private static void allAtOnceByWhatWasAhead() {
        BlindBells x = allHear(4, PROUD, PROUD, PROUD, TRUE);
        x.need(0, 0, 14);
        x.need(1, 0, 13);
        x.need(3, 0, 7);
        rang(x, "0 and 1 owe 3, 2 owes nothing", 8, 8, 3);
    }

    private static void helpedIfOneRings() {
        BlindBells x = allHear(4, SULKY, PROUD, PROUD, TRUE);
        x.need(0, 0, 14);
        x.need(3, 0, 1);
        rang(x, "one of three rings: helped", 8, 1);
        EDGE.due("helped(0)", x.helped(0), 1);
        x = allHear(4, SULKY, PROUD, PROUD, TRUE);
        x.need(0, 0, 6);
        x.need(3, 0, 1);
        rang(x, "none of two rings: let down", 0, 0);
        EDGE.due("helped(0)", x.helped(0), 0);
        x = allHear(4, SULKY);
        x.need(0, 0, 0);
        x.need(3, 0, 1);
        rang(x, "none was due: let down", 0, 0);
    }

    // ---- 14: DUE (0), who rang (1), as bits. BAD

    private static void rangNumbers() {
        for (Valleys valley : Valleys.ALL) {
            int needs = valley.make().count(2);
            for (int side = 0; side < 2; side++) {
                int what = side;
                EDGE.badOutside("rang: need", 0, needs - 1, valley, (x, need) -> x.rang(need, what));
            }
            EDGE.badOutside("rang: what", 0, 1, valley, (x, what) -> x.rang(0, what));
        }
    }

    private static void rangOfNoNeeds() {
        EDGE.bad("no needs", Valleys.NEW, x -> x.rang(0, 0));
        EDGE.bad("no needs are left", Valleys.of(x -> x.need(0, 0, 2)).and(x -> x.undo()), x -> x.rang(0, 1));
        EDGE.bad("no needs behind villages", Valleys.CRAMMED.and(x -> x.villages(6)), x -> x.rang(0, 1));
    }

    private static void rangOfTheLastNeed() {
        Valleys twelve = Valleys.of(x -> {
            x.hears(1, 3, 0, true);
            for (int i = 0; i < 11; i++) {
                x.need(2, 0, 1);
            }
            x.need(0, 3, 14);
        });
        EDGE.asked("the twelfth: due", twelve, x -> x.rang(11, 0), 2);
        EDGE.asked("the twelfth: rang", twelve, x -> x.rang(11, 1), 2);
        EDGE.asked("the first: due", twelve, x -> x.rang(0, 0), 0);
        EDGE.bad("a thirteenth", twelve, x -> x.rang(12, 0));
        EDGE.bad("the twelfth, undone", twelve.and(x -> x.undo()), x -> x.rang(11, 0));
    }

    private static void rangTellsDueFromRang() {
        BlindBells x = allHear(3, TRUE, TRUE, PROUD);
        x.need(0, 0, 6);
        EDGE.due("due", x.rang(0, 0), 6);
        EDGE.due("rang", x.rang(0, 1), 2);
    }

    // ---- 15: how many NEEDS (village = NONE), of a VILLAGE. BAD

    private static void helpedNumbers() {
        for (Valleys valley : Valleys.ALL) {
            EDGE.badOutside("helped", -1, valley.n - 1, valley, BlindBells::helped);
        }
    }

    private static void helpedOfNoneAndOfTwelve() {
        EDGE.asked("no needs, of all", Valleys.NEW, x -> x.helped(-1), 0);
        EDGE.asked("no needs, of the last", Valleys.NEW, x -> x.helped(3), 0);
        Valleys twelve = Valleys.of(x -> {
            x.hears(0, 0, 3, true);
            x.hears(0, 0, 2, true);
            for (int i = 0; i < 12; i++) {
                x.need(i < 11 ? 3 : 2, 0, 1);
            }
        });
        EDGE.asked("twelve, of all", twelve, x -> x.helped(-1), 12);
        EDGE.asked("eleven of the last village", twelve, x -> x.helped(3), 11);
        EDGE.asked("one of the one ahead", twelve, x -> x.helped(2), 1);
        EDGE.asked("none of the first", twelve, x -> x.helped(0), 0);
    }

    // ---- 16: RANG of two behind all NEEDS. BAD: alike, too

    private static void favoursNumbers() {
        for (Valleys valley : Valleys.ALL) {
            int last = valley.n - 1;
            EDGE.badOutside("favours: by", 0, last, valley, (x, by) -> x.favours(by, 0));
            EDGE.badOutside("favours: of", 0, last, valley, (x, of) -> x.favours(last, of));
        }
    }

    private static void favoursAlikeIsBad() {
        for (Valleys valley : Valleys.ALL) {
            EDGE.badForEach("favours, alike", valley, (x, alike) -> x.favours(alike, alike));
        }
    }

    private static void favoursOfNoneAndOfTwelve() {
        for (int n = 2; n <= 6; n++) {
            int last = n - 1;
            Valleys none = Valleys.of(x -> x.villages(last + 1));
            EDGE.asked("none", none, x -> x.favours(last, 0), 0);
            Valleys twelve = none.and(x -> {
                x.hears(last, 0, 0, true);
                for (int i = 0; i < 12; i++) {
                    x.need(0, 0, 1 << last);
                }
            });
            EDGE.asked("twelve", twelve, x -> x.favours(last, 0), 12);
            EDGE.asked("none the other way", twelve, x -> x.favours(0, last), 0);
            EDGE.asked("eleven, one undone", twelve.and(x -> x.undo()), x -> x.favours(last, 0), 11);
            EDGE.asked("none, when it is PROUD", twelve.and(x -> x.temper(last, PROUD)), x -> x.favours(last, 0), 0);
        }
    }

    // ---- 17: LAST of two behind all NEEDS: 1, 0; NONE: it never was DUE. BAD: alike, too

    private static void lastNumbers() {
        for (Valleys valley : Valleys.ALL) {
            int end = valley.n - 1;
            EDGE.badOutside("last: by", 0, end, valley, (x, by) -> x.last(by, 0));
            EDGE.badOutside("last: of", 0, end, valley, (x, of) -> x.last(end, of));
        }
    }

    private static void lastAlikeIsBad() {
        for (Valleys valley : Valleys.ALL) {
            EDGE.badForEach("last, alike", valley, (x, alike) -> x.last(alike, alike));
        }
    }

    private static void lastOfWhoNeverWasDue() {
        EDGE.asked("no needs", Valleys.NEW, x -> x.last(0, 3), -1);
        Valleys notDue = Valleys.of(x -> {
            x.hears(1, 0, 0, true);
            x.need(0, 0, 4);
            x.need(0, 1, 2);
        });
        EDGE.asked("heard, but saw it not; saw it, but was not heard", notDue, x -> x.last(1, 0), -1);
        Valleys due = notDue.and(x -> x.need(0, 0, 2));
        EDGE.asked("was due, and rang", due, x -> x.last(1, 0), 1);
        EDGE.asked("the other one was not", due, x -> x.last(0, 1), -1);
        EDGE.asked("was due, and did not ring", due.and(x -> x.temper(1, PROUD)), x -> x.last(1, 0), 0);
        EDGE.asked("undone, it never was", due.and(x -> x.undo()), x -> x.last(1, 0), -1);
    }

    private static void lastIsTheLastTime() {
        BlindBells x = allHear(2, TRUE, PROUD);
        int[] of = {0, 1, 0, 0, 0, 1, 0};
        int[] last = {0, 0, 1, 0, 0, 0, 1};
        for (int i = 0; i < of.length; i++) {
            x.need(of[i], 0, of[i] == 0 ? 2 : 1);
            EDGE.due("last(1, 0) behind need " + i, x.last(1, 0), last[i]);
        }
    }
}
