/** The edges of promises 1 to 10, a test for each sentence that names one. */
public final class VillagesEdgeTest {
    private static final Edge EDGE = new Edge();

    public static void main(String[] args) {
        newHasFourVillages();
        newHasNothingTold();
        newSharesNothing();
        villagesAre2To6();
        villagesAnswersWhatNWas();
        villagesTellsNothingElse();
        villagesLeavesTextImagesAndStatus();
        villagesGoneAreBad();
        hearsNumbers();
        hearsItsOwnIsBad();
        hearsItIsSoIsNo();
        hearsBadGoesAheadOfNo();
        woodNumbers();
        woodItsOwnIsBad();
        woodsAreEight();
        woodBadGoesAheadOfFull();
        woodShutsInEachWind();
        temperNumbers();
        friendNumbers();
        friendItselfIsNone();
        changeNumbers();
        changeAlikeIsBad();
        changeLeavesOneBellEach();
        needNumbers();
        needSeenByItselfIsBad();
        needSeenByNoneOrAllOthers();
        needsAreTwelve();
        needBadGoesAheadOfFull();
        undoOfNoneIsNo();
        undoOfAllTwelve();
        heardNumbers();
        heardNowhereAndEverywhere();
        toldAndTakenBack();
        EDGE.end();
    }

    // ---- 1: four VILLAGES, nothing heard

    private static void newHasFourVillages() {
        EDGE.asked("new: 4 at first", Valleys.NEW, x -> x.count(0), 4);
        EDGE.asked("new: the last one", Valleys.NEW, x -> x.rope(3), 3);
        EDGE.bad("new: one more", Valleys.NEW, x -> x.rope(4));
    }

    private static void newHasNothingTold() {
        for (int v = 0; v < 4; v++) {
            int village = v;
            EDGE.asked("new: its own rope", Valleys.NEW, x -> x.rope(village), village);
            EDGE.asked("new: TRUE", Valleys.NEW, x -> x.temper(village, 0), 0);
            EDGE.asked("new: its friend is itself", Valleys.NEW, x -> x.friendOf(village, village), village);
            for (int w = 0; w < 4; w++) {
                int wind = w;
                EDGE.asked("new: nowhere heard", Valleys.NEW, x -> x.heard(village, wind), 0);
            }
        }
        for (int what = 1; what <= 4; what++) {
            int of = what;
            EDGE.asked("new: none of count(" + what + ")", Valleys.NEW, x -> x.count(of), 0);
        }
        for (int what = 0; what <= 2; what++) {
            EDGE.due("new: status(" + what + ")", new BlindBells().status(what), 0);
        }
    }

    private static void newSharesNothing() {
        BlindBells first = new BlindBells();
        long fresh = first.digest();
        BlindBells other = Valleys.CRAMMED.make();
        other.rope(-1);
        EDGE.due("another object is another valley", first.digest(), fresh);
        EDGE.due("and another status", first.status(0), 0);
        EDGE.due("and other images", first.from(0), -3);
        EDGE.due("a later one is new, too", new BlindBells().digest(), fresh);
    }

    // ---- 2: n VILLAGES (2 .. 6), all TRUE, nothing else told: what n was. BAD

    private static void villagesAre2To6() {
        for (Valleys valley : Valleys.ALL) {
            EDGE.taken("Valleys.villages(2), the fewest", valley, x -> x.villages(2), valley.n);
            EDGE.taken("Valleys.villages(6), the most", valley, x -> x.villages(6), valley.n);
            EDGE.badOutside("villages", 2, 6, valley, BlindBells::villages);
        }
    }

    private static void villagesAnswersWhatNWas() {
        BlindBells x = new BlindBells();
        int was = 4;
        for (int n = 2; n <= 6; n++) {
            EDGE.due("villages(" + n + ")", x.villages(n), was);
            EDGE.due("count(0)", x.count(0), n);
            EDGE.due("the last of them", x.rope(n - 1), n - 1);
            EDGE.due("no more of them", x.rope(n), -2);
            was = n;
        }
        EDGE.due("Valleys.villages(6), what it is", x.villages(6), 6);
    }

    private static void villagesTellsNothingElse() {
        for (int n = 2; n <= 6; n++) {
            BlindBells x = Valleys.CRAMMED.make();
            x.clear();
            x.villages(n);
            BlindBells fresh = new BlindBells();
            fresh.villages(n);
            EDGE.due("nothing else told: digest() of " + n, x.digest(), fresh.digest());
            EDGE.due("no need is left", x.undo(), -3);
            for (int bell = 0; bell < n; bell++) {
                EDGE.due("no wood is left: hears", x.hears(bell, 3, (bell + 1) % n, true), 1);
                EDGE.due("no wood is left: heard", x.heard(bell, 3), 1 << (bell + 1) % n);
            }
            EDGE.due("no sign is left: its first", x.sign(9), 0);
        }
        BlindBells x = Valleys.CRAMMED.make();
        x.clear();
        x.villages(2);
        x.villages(6);
        BlindBells fresh = new BlindBells();
        fresh.villages(6);
        EDGE.due("nothing comes back with more villages", x.digest(), fresh.digest());
    }

    private static void villagesLeavesTextImagesAndStatus() {
        BlindBells x = Valleys.CRAMMED.make();
        x.rope(6);
        x.hears(0, 0, 1, true);
        x.wood(0, 1);
        x.villages(2);
        EDGE.due("status(0) stays", x.status(0), 1);
        EDGE.due("status(1) stays", x.status(1), 1);
        EDGE.due("status(2) stays", x.status(2), 1);
        EDGE.due("the text stays", x.read(), 6);
        EDGE.due("image 0 stays", x.from(0), 1);
        EDGE.due("as it was kept", x.count(2), 1);
        EDGE.due("image 1 stays", x.from(1), 1);
        EDGE.due("as it was kept", x.count(2), 12);
    }

    /** What was a village of six is none of two, in each call. */
    private static void villagesGoneAreBad() {
        Valleys two = Valleys.CRAMMED.and(x -> x.villages(2));
        EDGE.bad("gone: hears", two, x -> x.hears(2, 0, 1, true));
        EDGE.bad("gone: hears in it", two, x -> x.hears(0, 0, 2, true));
        EDGE.bad("gone: wood", two, x -> x.wood(2, 0));
        EDGE.bad("gone: temper", two, x -> x.temper(2, 0));
        EDGE.bad("gone: friendOf", two, x -> x.friendOf(0, 2));
        EDGE.bad("gone: change", two, x -> x.change(0, 2));
        EDGE.bad("gone: need", two, x -> x.need(2, 0, 1));
        EDGE.bad("gone: need seen by it", two, x -> x.need(0, 0, 4));
        EDGE.bad("gone: heard", two, x -> x.heard(2, 0));
        EDGE.bad("gone: helped", two, x -> x.helped(2));
        EDGE.bad("gone: favours", two, x -> x.favours(0, 2));
        EDGE.bad("gone: last", two, x -> x.last(2, 0));
        EDGE.bad("gone: rope", two, x -> x.rope(2));
        EDGE.bad("gone: word", two, x -> x.word(2, 0, 0));
        EDGE.bad("gone: came", two, x -> x.came(0, 4, 0));
        EDGE.bad("gone: ask", two, x -> x.ask(0, 0, 4));
        EDGE.bad("gone: a need", two, x -> x.rang(0, 0));
    }

    // ---- 3: BAD: its own, too; NO: it is so

    private static void hearsNumbers() {
        for (Valleys valley : Valleys.ALL) {
            int last = valley.n - 1;
            for (boolean is : new boolean[] {true, false}) {
                EDGE.badOutside("hears: bell", 0, last, valley, (x, bell) -> x.hears(bell, 0, 1, is));
                EDGE.badOutside("hears: wind", 0, 3, valley, (x, wind) -> x.hears(0, wind, 1, is));
                EDGE.badOutside("hears: village", 0, last, valley, (x, v) -> x.hears(0, 0, v, is));
            }
        }
        for (int n = 2; n <= 6; n++) {
            int last = n - 1;
            Valleys quiet = Valleys.villages(n);
            EDGE.taken("hears: the first bell, the last village", quiet, x -> x.hears(0, 0, last, true), 1);
            EDGE.taken("hears: the last bell, the first village", quiet, x -> x.hears(last, 0, 0, true), 1);
            EDGE.taken("hears: the last wind", quiet, x -> x.hears(last, 3, 0, true), 1);
        }
    }

    private static void hearsItsOwnIsBad() {
        for (Valleys valley : Valleys.ALL) {
            EDGE.badForEach("hears its own", valley, (x, own) -> x.hears(own, 0, own, true));
            EDGE.badForEach("hears its own not", valley, (x, own) -> x.hears(own, 3, own, false));
        }
    }

    private static void hearsItIsSoIsNo() {
        EDGE.no("not heard at first", Valleys.NEW, x -> x.hears(0, 0, 1, false));
        Valleys heard = Valleys.of(x -> x.hears(3, 3, 0, true));
        EDGE.no("heard, and told again", heard, x -> x.hears(3, 3, 0, true));
        EDGE.taken("heard, and told that it is not", heard, x -> x.hears(3, 3, 0, false), 1);
        EDGE.taken("in the wind ahead it is not so", heard, x -> x.hears(3, 2, 0, true), 1);
        EDGE.taken("in the village behind it is not so", heard, x -> x.hears(3, 3, 1, true), 1);
        EDGE.taken("of the bell ahead it is not so", heard, x -> x.hears(2, 3, 0, true), 1);
        Valleys not = heard.and(x -> x.hears(3, 3, 0, false));
        EDGE.no("no more heard, and told so again", not, x -> x.hears(3, 3, 0, false));
        Valleys shut = heard.and(x -> x.wood(3, 0));
        EDGE.no("behind a wood it still is so", shut, x -> x.hears(3, 3, 0, true));
        EDGE.taken("and may be told off", shut, x -> x.hears(3, 3, 0, false), 1);
    }

    private static void hearsBadGoesAheadOfNo() {
        EDGE.bad("its own is not heard, that is so: BAD first", Valleys.NEW, x -> x.hears(0, 0, 0, false));
        EDGE.bad("in wind 4 nothing is heard: BAD first", Valleys.NEW, x -> x.hears(0, 4, 1, false));
        EDGE.bad("in village 4 nothing is heard: BAD first", Valleys.NEW, x -> x.hears(0, 0, 4, false));
    }

    // ---- 4: its number. BAD: its own, too; FULL: 8

    private static void woodNumbers() {
        for (Valleys valley : Valleys.ALL) {
            int last = valley.n - 1;
            EDGE.badOutside("wood: bell", 0, last, valley, (x, bell) -> x.wood(bell, 1));
            EDGE.badOutside("wood: village", 0, last, valley, (x, v) -> x.wood(1, v));
        }
        for (int n = 2; n <= 6; n++) {
            int last = n - 1;
            EDGE.taken("wood: the first bell, the last village", Valleys.villages(n), x -> x.wood(0, last), 0);
            EDGE.taken("wood: the last bell, the first village", Valleys.villages(n), x -> x.wood(last, 0), 0);
        }
    }

    private static void woodItsOwnIsBad() {
        for (Valleys valley : Valleys.ALL) {
            EDGE.badForEach("wood, its own", valley, (x, own) -> x.wood(own, own));
        }
    }

    private static void woodsAreEight() {
        Valleys woods = Valleys.NEW;
        for (int i = 0; i < 8; i++) {
            EDGE.taken("wood, as they come", woods, x -> x.wood(0, 1), i);
            woods = woods.and(x -> x.wood(0, 1));
        }
        EDGE.asked("eight woods", woods, x -> x.count(1), 8);
        EDGE.full("a ninth wood", woods, x -> x.wood(1, 0));
        EDGE.full("a ninth like the first", woods, x -> x.wood(0, 1));
        EDGE.full("a ninth in a crammed valley", Valleys.CRAMMED, x -> x.wood(5, 4));
        EDGE.taken("anew: the first one", woods.and(x -> x.villages(4)), x -> x.wood(1, 0), 0);
    }

    private static void woodBadGoesAheadOfFull() {
        EDGE.bad("a ninth, its own", Valleys.CRAMMED, x -> x.wood(2, 2));
        EDGE.bad("a ninth of no bell", Valleys.CRAMMED, x -> x.wood(6, 0));
        EDGE.bad("a ninth of no village", Valleys.CRAMMED, x -> x.wood(0, 6));
    }

    private static void woodShutsInEachWind() {
        BlindBells x = new BlindBells();
        for (int wind = 0; wind < 4; wind++) {
            x.hears(0, wind, 1, true);
            x.hears(0, wind, 2, true);
            x.hears(1, wind, 2, true);
        }
        x.wood(0, 1);
        x.wood(2, 1);
        for (int wind = 0; wind < 4; wind++) {
            EDGE.due("shut out of 1 alone, wind " + wind, x.heard(0, wind), 4);
            EDGE.due("no other bell is shut, wind " + wind, x.heard(1, wind), 4);
        }
        x.hears(2, 0, 1, true);
        EDGE.due("told later, and shut", x.heard(2, 0), 0);
        x.wood(0, 2);
        EDGE.due("a second wood leaves the first", x.heard(0, 3), 0);
    }

    // ---- 5: what it was. BAD

    private static void temperNumbers() {
        for (Valleys valley : Valleys.ALL) {
            int last = valley.n - 1;
            EDGE.badOutside("temper: village", 0, last, valley, (x, v) -> x.temper(v, 1));
            EDGE.badOutside("temper: kind", 0, 5, valley, (x, kind) -> x.temper(last, kind));
        }
        for (int n = 2; n <= 6; n++) {
            int last = n - 1;
            EDGE.taken("temper: the first, the last kind", Valleys.villages(n), x -> x.temper(0, 5), 0);
            EDGE.taken("temper: the last, the last kind", Valleys.villages(n), x -> x.temper(last, 5), 0);
            Valleys deaf = Valleys.villages(n).and(x -> x.temper(last, 5));
            EDGE.taken("temper: the first kind, behind the last", deaf, x -> x.temper(last, 0), 5);
            EDGE.asked("temper: as it is", deaf, x -> x.temper(last, 5), 5);
            EDGE.asked("temper: the others are as they were", deaf, x -> x.temper(0, 0), 0);
        }
    }

    // ---- 6: what it was. BAD; itself: none, at first

    private static void friendNumbers() {
        for (Valleys valley : Valleys.ALL) {
            int last = valley.n - 1;
            EDGE.badOutside("friendOf: village", 0, last, valley, (x, v) -> x.friendOf(v, 0));
            EDGE.badOutside("friendOf: other", 0, last, valley, (x, other) -> x.friendOf(last, other));
        }
        for (int n = 2; n <= 6; n++) {
            int last = n - 1;
            EDGE.taken("friendOf: the first, the last", Valleys.villages(n), x -> x.friendOf(0, last), 0);
            EDGE.taken("friendOf: the last, the first", Valleys.villages(n), x -> x.friendOf(last, 0), last);
        }
    }

    private static void friendItselfIsNone() {
        Valleys fond = Valleys.of(x -> x.friendOf(3, 0));
        EDGE.taken("itself is no refusal", fond, x -> x.friendOf(3, 3), 0);
        EDGE.taken("none again", fond.and(x -> x.friendOf(3, 3)), x -> x.friendOf(3, 1), 3);
        EDGE.asked("the friend does not have it as a friend", fond, x -> x.friendOf(0, 0), 0);
    }

    // ---- 7: 1. BAD: alike, too

    private static void changeNumbers() {
        for (Valleys valley : Valleys.ALL) {
            int last = valley.n - 1;
            EDGE.badOutside("change: a", 0, last, valley, (x, a) -> x.change(a, 0));
            EDGE.badOutside("change: b", 0, last, valley, (x, b) -> x.change(last, b));
            EDGE.taken("change: the first, the last", valley, x -> x.change(0, last), 1);
            EDGE.taken("change: the last, the first", valley, x -> x.change(last, 0), 1);
            EDGE.asked("change, and back", valley, x -> x.change(0, last) + x.change(last, 0), 2);
        }
    }

    private static void changeAlikeIsBad() {
        for (Valleys valley : Valleys.ALL) {
            EDGE.badForEach("change, alike", valley, (x, alike) -> x.change(alike, alike));
        }
    }

    private static void changeLeavesOneBellEach() {
        BlindBells x = new BlindBells();
        x.villages(6);
        int[] rope = {0, 1, 2, 3, 4, 5};
        for (int i = 0; i < 30; i++) {
            int a = i % 6;
            int b = (i + 1 + i / 6) % 6;
            x.change(a, b);
            int ofA = rope[a];
            rope[a] = rope[b];
            rope[b] = ofA;
            for (int bell = 0; bell < 6; bell++) {
                EDGE.due("change " + i + ": rope(" + bell + ")", x.rope(bell), rope[bell]);
            }
        }
    }

    // ---- 8: its number. BAD: SEEN by itself, bits of no VILLAGE, too; FULL: 12

    private static void needNumbers() {
        for (Valleys valley : Valleys.ALL) {
            int last = valley.n - 1;
            int all = (1 << valley.n) - 1;
            EDGE.badOutside("need: village", 0, last, valley, (x, v) -> x.need(v, 0, 0));
            EDGE.badOutside("need: wind", 0, 3, valley, (x, wind) -> x.need(0, wind, 2));
            EDGE.badOutside("need: seen", 0, all, valley, (x, seen) -> x.need(last, 0, seen));
        }
        for (int n = 2; n <= 6; n++) {
            int last = n - 1;
            EDGE.taken("need: the first village, the last wind", Valleys.villages(n), x -> x.need(0, 3, 2), 0);
            EDGE.taken("need: the last village, the first wind", Valleys.villages(n), x -> x.need(last, 0, 1), 0);
        }
    }

    private static void needSeenByItselfIsBad() {
        for (Valleys valley : Valleys.ALL) {
            int all = (1 << valley.n) - 1;
            EDGE.badForEach("seen by itself alone", valley, (x, own) -> x.need(own, 0, 1 << own));
            EDGE.badForEach("seen by all, itself, too", valley, (x, own) -> x.need(own, 0, all));
        }
    }

    private static void needSeenByNoneOrAllOthers() {
        for (int n = 2; n <= 6; n++) {
            for (int v = 0; v < n; v++) {
                int own = v;
                int others = (1 << n) - 1 - (1 << v);
                int none = others | 1 << n;
                EDGE.taken("seen by none: " + v, Valleys.villages(n), x -> x.need(own, 0, 0), 0);
                EDGE.taken("seen by all others: " + v, Valleys.villages(n), x -> x.need(own, 0, others), 0);
                EDGE.bad("and by one that is none: " + v, Valleys.villages(n), x -> x.need(own, 0, none));
            }
        }
    }

    private static void needsAreTwelve() {
        Valleys needs = Valleys.NEW;
        for (int i = 0; i < 12; i++) {
            EDGE.taken("need, as they come", needs, x -> x.need(0, 0, 2), i);
            needs = needs.and(x -> x.need(0, 0, 2));
        }
        EDGE.asked("twelve needs", needs, x -> x.count(2), 12);
        EDGE.full("a thirteenth need", needs, x -> x.need(1, 1, 1));
        EDGE.full("a thirteenth seen by none", needs, x -> x.need(1, 1, 0));
        EDGE.full("a thirteenth in a crammed valley", Valleys.CRAMMED, x -> x.need(5, 3, 31));
        EDGE.taken("one undone: the twelfth again", needs.and(x -> x.undo()), x -> x.need(1, 1, 1), 11);
        EDGE.taken("anew: the first one", needs.and(x -> x.villages(4)), x -> x.need(1, 1, 1), 0);
    }

    private static void needBadGoesAheadOfFull() {
        EDGE.bad("a thirteenth seen by itself", Valleys.CRAMMED, x -> x.need(0, 0, 1));
        EDGE.bad("a thirteenth seen by no village", Valleys.CRAMMED, x -> x.need(0, 0, 64));
        EDGE.bad("a thirteenth in no wind", Valleys.CRAMMED, x -> x.need(0, 4, 2));
        EDGE.bad("a thirteenth of no village", Valleys.CRAMMED, x -> x.need(6, 0, 2));
    }

    // ---- 9: how many NEEDS are left. NO: there is none

    private static void undoOfNoneIsNo() {
        EDGE.no("undo of none", Valleys.NEW, BlindBells::undo);
        EDGE.no("undo of one, then of none", Valleys.of(x -> x.undo()).and(x -> x.need(0, 0, 0)).and(x -> x.undo()),
            BlindBells::undo);
        EDGE.no("undo behind villages", Valleys.CRAMMED.and(x -> x.villages(6)), BlindBells::undo);
        EDGE.no("undo behind a tale without needs", Valleys.BUSY_6.and(x -> Check.read(x, "villages 2;")),
            BlindBells::undo);
    }

    private static void undoOfAllTwelve() {
        BlindBells x = new BlindBells();
        long[] digest = new long[13];
        digest[0] = x.digest();
        for (int i = 0; i < 12; i++) {
            x.need(i % 4, i % 3, 15 & ~(1 << i % 4));
            digest[i + 1] = x.digest();
        }
        for (int left = 11; left >= 0; left--) {
            EDGE.due("undo", x.undo(), left);
            EDGE.due("the last one is taken back", x.digest(), digest[left]);
            EDGE.due("and has not been rung for", x.rang(left, 0), -2);
        }
        EDGE.due("none is left", x.undo(), -3);
    }

    // ---- 10: VILLAGES (bits) in which a BELL is heard in a WIND (WOODS as they are). BAD

    private static void heardNumbers() {
        for (Valleys valley : Valleys.ALL) {
            EDGE.badOutside("heard: bell", 0, valley.n - 1, valley, (x, bell) -> x.heard(bell, 0));
            EDGE.badOutside("heard: wind", 0, 3, valley, (x, wind) -> x.heard(0, wind));
        }
    }

    private static void heardNowhereAndEverywhere() {
        for (int n = 2; n <= 6; n++) {
            int last = n - 1;
            int others = (1 << last) - 1;
            EDGE.asked("heard nowhere", Valleys.villages(n), x -> x.heard(last, 3), 0);
            Valleys loud = Valleys.villages(n).and(x -> {
                for (int v = 0; v < last; v++) {
                    x.hears(last, 3, v, true);
                }
            });
            EDGE.asked("heard in all others", loud, x -> x.heard(last, 3), others);
            EDGE.asked("not in the wind ahead", loud, x -> x.heard(last, 2), 0);
            EDGE.asked("but for the wood", loud.and(x -> x.wood(last, 0)), x -> x.heard(last, 3), others & ~1);
        }
    }

    // ---- each call tells its one thing, and nothing else: told, and told back, all is as it was

    private static void toldAndTakenBack() {
        for (Valleys valley : Valleys.ALL) {
            int last = valley.n - 1;
            int friend = valley.make().friendOf(last, 0);
            int temper = valley.make().temper(0, 3);
            boolean heard = valley.make().hears(last, 1, 0, true) == BlindBells.NO;
            EDGE.asked("ropes changed twice", valley, x -> x.change(0, last) + x.change(last, 0), 2);
            EDGE.asked("heard, or not, and back", valley,
                x -> x.hears(last, 1, 0, !heard) + x.hears(last, 1, 0, heard), 2);
            EDGE.asked("a temper, and back", valley, x -> 10 * x.temper(0, 3) + x.temper(0, temper), 10 * temper + 3);
            EDGE.asked("a friend, and back", valley, x -> 10 * x.friendOf(last, 0) + x.friendOf(last, friend),
                10 * friend);
        }
        for (Valleys valley : new Valleys[] {Valleys.NEW, Valleys.BUSY_2, Valleys.BUSY_4, Valleys.BUSY_6}) {
            int needs = valley.make().count(2);
            EDGE.asked("a need, undone", valley, x -> 100 * x.need(0, 1, 2) + x.undo(), 101 * needs);
        }
    }
}
