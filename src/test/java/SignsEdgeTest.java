/** The edges of promises 23 to 26, a test for each sentence that names one. */
public final class SignsEdgeTest {
    private static final Edge EDGE = new Edge();

    public static void main(String[] args) {
        signNumbers();
        signsAreSix();
        signAlikeIsBad();
        signBadGoesAheadOfFull();
        clearOfNoneAndOne();
        clearZeroToThreeBeatsLater();
        clearBeyondEightBeats();
        clearOfAlikeOnes();
        clearSomeOtherSignThanThese();
        clearTheFirstThatIsNot();
        clearTheGreatestAnswer();
        cameNumbers();
        cameInBothIsBad();
        cameOfNothingKnown();
        cameOfAllKnown();
        cameBehindWoods();
        askNumbers();
        askInBothIsBad();
        askWhenNonePartsThem();
        askTheMostEven();
        askTheLeastOfLikeOnes();
        askOfTheRestAlone();
        EDGE.end();
    }

    private static Valleys signs(int... strokes) {
        return Valleys.of(x -> {
            for (int s : strokes) {
                x.sign(s);
            }
        });
    }

    private static void clear(String what, int answer, int... strokes) {
        EDGE.asked(what, signs(strokes), BlindBells::clearSigns, answer);
    }

    // ---- 23: its number. BAD: one is alike, too; FULL: 6

    private static void signNumbers() {
        for (Valleys valley : Valleys.ALL) {
            EDGE.badOutside("sign", 1, 255, valley, BlindBells::sign);
        }
        EDGE.taken("the least", Valleys.NEW, x -> x.sign(1), 0);
        EDGE.taken("the last beat alone", Valleys.NEW, x -> x.sign(128), 0);
        EDGE.taken("all beats", Valleys.NEW, x -> x.sign(255), 0);
    }

    private static void signsAreSix() {
        Valleys signs = Valleys.NEW;
        for (int i = 0; i < 6; i++) {
            int strokes = 250 + i;
            EDGE.taken("sign, as they come", signs, x -> x.sign(strokes), i);
            signs = signs.and(x -> x.sign(strokes));
        }
        EDGE.asked("six signs", signs, x -> x.count(3), 6);
        EDGE.full("a seventh sign", signs, x -> x.sign(1));
        EDGE.full("a seventh in a crammed valley", Valleys.CRAMMED, x -> x.sign(255));
        EDGE.taken("anew: the first one", signs.and(x -> x.villages(4)), x -> x.sign(255), 0);
    }

    private static void signAlikeIsBad() {
        Valleys signs = signs(1, 2, 4, 8, 255);
        for (int strokes : new int[] {1, 2, 4, 8, 255}) {
            EDGE.bad("alike: " + strokes, signs, x -> x.sign(strokes));
        }
        EDGE.taken("unlike", signs, x -> x.sign(16), 5);
        EDGE.taken("alike to one that was", signs.and(x -> x.villages(4)), x -> x.sign(1), 0);
    }

    private static void signBadGoesAheadOfFull() {
        EDGE.bad("a seventh alike", Valleys.CRAMMED, x -> x.sign(9));
        EDGE.bad("a seventh without strokes", Valleys.CRAMMED, x -> x.sign(0));
        EDGE.bad("a seventh of nine beats", Valleys.CRAMMED, x -> x.sign(256));
    }

    // ---- 24: CLEAR: NONE; else 1000 a, 100 b, 10 times how much later, and the SIGN

    private static void clearOfNoneAndOne() {
        clear("no signs", -1);
        clear("one, of one stroke", -1, 1);
        clear("one, of all strokes", -1, 255);
        clear("six that are clear", -1, 129, 165, 66, 196, 35, 245);
    }

    private static void clearZeroToThreeBeatsLater() {
        clear("0 beats later", 102, 1, 64, 65);
        clear("1 beat later", 11, 1, 3);
        clear("2 beats later", 21, 1, 5);
        clear("3 beats later", 31, 1, 9);
        clear("4 beats later is too late", -1, 1, 17);
        clear("5 beats later is too late", -1, 1, 33);
    }

    private static void clearBeyondEightBeats() {
        clear("the last beat goes off", -1, 128, 192);
        clear("193 is heard as 130, 1 beat later", 1112, 6, 193, 195);
        clear("all that is later is not heard: one of these", -1, 1, 224);
        clear("129 is heard as 2, 1 beat later", 112, 4, 129, 6);
        clear("128 is not heard, 1 beat later", -1, 128, 1);
    }

    private static void clearOfAlikeOnes() {
        clear("the first with itself", 11, 5, 15);
        clear("the second with itself", 1110, 15, 5);
        clear("alike ones at once are one of these", -1, 5, 64);
    }

    private static void clearSomeOtherSignThanThese() {
        clear("heard as the first of both", -1, 255, 1);
        clear("heard as the second of both", -1, 16, 255);
        clear("heard as a third", 102, 15, 240, 255);
    }

    private static void clearTheFirstThatIsNot() {
        clear("the first a", 11, 1, 3, 16, 48);
        clear("the first b", 103, 64, 1, 2, 65);
        clear("b ahead of how much later", 33, 1, 64, 65, 9);
        clear("how much later ahead of the sign", 12, 1, 5, 3);
        clear("the first order of two", 102, 1, 16, 17);
        clear("the second one later, though told first", 1012, 2, 16, 20);
    }

    private static void clearTheGreatestAnswer() {
        clear("a 5, b 5, 3 later, sign 4", 5534, 98, 10, 29, 89, 208, 80);
    }

    // ---- 25: FROM, as bits. BAD: VILLAGES in both, too

    /** In wind 3 bell 0 is heard in 1, 2, 3, bell 1 in 2, 3, bell 2 in 3, bell 3 in 2, 4, bell 4 nowhere. */
    private static Valleys strokes() {
        return Valleys.of(x -> {
            x.villages(5);
            int[][] heard = {{0, 1}, {0, 2}, {0, 3}, {1, 2}, {1, 3}, {2, 3}, {3, 2}, {3, 4}};
            for (int[] h : heard) {
                x.hears(h[0], 3, h[1], true);
            }
        });
    }

    private static void cameNumbers() {
        for (Valleys valley : Valleys.ALL) {
            int all = (1 << valley.n) - 1;
            EDGE.badOutside("came: wind", 0, 3, valley, (x, wind) -> x.came(wind, 1, 2));
            EDGE.badOutside("came: heardIn", 0, all, valley, (x, bits) -> x.came(0, bits, 0));
            EDGE.badOutside("came: not", 0, all, valley, (x, bits) -> x.came(0, 0, bits));
        }
    }

    private static void cameInBothIsBad() {
        for (Valleys valley : Valleys.ALL) {
            int all = (1 << valley.n) - 1;
            EDGE.badForEach("came, in both", valley, (x, v) -> x.came(0, 1 << v, 1 << v));
            EDGE.badForEach("came, in both, and all heard", valley, (x, v) -> x.came(0, all, 1 << v));
            EDGE.badForEach("came, in both, and all not", valley, (x, v) -> x.came(0, 1 << v, all));
        }
    }

    private static void cameOfNothingKnown() {
        for (Valleys valley : Valleys.ALL) {
            int all = (1 << valley.n) - 1;
            EDGE.asked("all bells, nothing is known", valley, x -> x.came(3, 0, 0), all);
        }
        EDGE.asked("all bells, though heard nowhere", Valleys.NEW, x -> x.came(0, 0, 15), 15);
        EDGE.asked("no bell, since heard nowhere", Valleys.NEW, x -> x.came(0, 8, 0), 0);
    }

    private static void cameOfAllKnown() {
        EDGE.asked("heard in all", strokes(), x -> x.came(3, 31, 0), 0);
        EDGE.asked("heard in none", strokes(), x -> x.came(3, 0, 31), 16);
        EDGE.asked("heard as bell 0 is", strokes(), x -> x.came(3, 14, 17), 1);
        EDGE.asked("heard as bell 3 is", strokes(), x -> x.came(3, 20, 11), 8);
        EDGE.asked("heard as no bell is", strokes(), x -> x.came(3, 16, 15), 0);
        EDGE.asked("one of the rest is not known", strokes(), x -> x.came(3, 8, 16), 7);
        EDGE.asked("in another wind", strokes(), x -> x.came(2, 8, 16), 0);
    }

    private static void cameBehindWoods() {
        Valleys shut = strokes().and(x -> x.wood(2, 3));
        EDGE.asked("heard there by none any more", shut, x -> x.came(3, 8, 0), 3);
        EDGE.asked("not heard there, so it may be", shut, x -> x.came(3, 0, 31), 20);
        EDGE.asked("whoever rings it", shut.and(x -> x.change(0, 4)), x -> x.came(3, 8, 0), 3);
    }

    // ---- 26: ASK. NONE. BAD: VILLAGES in both, too

    private static void askNumbers() {
        for (Valleys valley : Valleys.ALL) {
            int all = (1 << valley.n) - 1;
            EDGE.badOutside("ask: wind", 0, 3, valley, (x, wind) -> x.ask(wind, 1, 2));
            EDGE.badOutside("ask: heardIn", 0, all, valley, (x, bits) -> x.ask(0, bits, 0));
            EDGE.badOutside("ask: not", 0, all, valley, (x, bits) -> x.ask(0, 0, bits));
        }
    }

    private static void askInBothIsBad() {
        for (Valleys valley : Valleys.ALL) {
            int all = (1 << valley.n) - 1;
            EDGE.badForEach("ask, in both", valley, (x, v) -> x.ask(0, 1 << v, 1 << v));
            EDGE.badForEach("ask, in both, and all heard", valley, (x, v) -> x.ask(0, all, 1 << v));
            EDGE.badForEach("ask, in both, and all not", valley, (x, v) -> x.ask(0, 1 << v, all));
        }
    }

    private static void askWhenNonePartsThem() {
        EDGE.asked("heard nowhere", Valleys.NEW, x -> x.ask(0, 0, 0), -1);
        EDGE.asked("no bell is left", strokes(), x -> x.ask(3, 16, 4), -1);
        EDGE.asked("one bell is left", strokes(), x -> x.ask(3, 8, 4), -1);
        EDGE.asked("all villages are known", strokes(), x -> x.ask(3, 0, 31), -1);
        EDGE.asked("in another wind", strokes(), x -> x.ask(2, 0, 0), -1);
        Valleys alike = Valleys.of(x -> {
            x.hears(0, 0, 3, true);
            x.hears(1, 0, 3, true);
        });
        EDGE.asked("two bells are left, heard alike", alike, x -> x.ask(0, 8, 0), -1);
    }

    private static void askTheMostEven() {
        EDGE.asked("two of five in 2 or 3, one in 1 and 4", strokes(), x -> x.ask(3, 0, 0), 2);
        EDGE.asked("bell 4 alone is not heard in 2 or 3", strokes(), x -> x.ask(3, 0, 12), -1);
        Valleys most = Valleys.of(x -> {
            for (int bell = 0; bell < 3; bell++) {
                x.hears(bell, 0, 3, true);
            }
            x.hears(0, 0, 1, true);
            x.hears(3, 0, 2, true);
            x.hears(0, 0, 2, true);
        });
        EDGE.asked("two of four, not one or three", most, x -> x.ask(0, 0, 0), 2);
        Valleys threeFirst = Valleys.of(x -> {
            for (int bell = 1; bell < 4; bell++) {
                x.hears(bell, 0, 0, true);
            }
            x.hears(0, 0, 1, true);
        });
        EDGE.asked("three of four are as even as one", threeFirst, x -> x.ask(0, 0, 0), 0);
        Valleys oneFirst = Valleys.of(x -> {
            for (int bell = 0; bell < 3; bell++) {
                x.hears(bell, 0, 3, true);
            }
            x.hears(0, 0, 1, true);
        });
        EDGE.asked("one of four is as even as three", oneFirst, x -> x.ask(0, 0, 0), 1);
    }

    private static void askTheLeastOfLikeOnes() {
        Valleys like = Valleys.of(x -> {
            x.villages(6);
            x.hears(0, 0, 5, true);
            x.hears(1, 0, 4, true);
            x.hears(0, 0, 3, true);
        });
        EDGE.asked("3, 4 and 5 part them alike", like, x -> x.ask(0, 0, 0), 3);
        EDGE.asked("3 and 5, when 4 is known", like, x -> x.ask(0, 0, 16), 3);
        EDGE.asked("4 and 5, when 3 is known", like, x -> x.ask(0, 0, 8), 4);
        Valleys last = Valleys.of(x -> {
            x.villages(6);
            x.hears(0, 3, 5, true);
        });
        EDGE.asked("the last village", last, x -> x.ask(3, 0, 0), 5);
        EDGE.asked("the first village", Valleys.of(x -> x.hears(3, 3, 0, true)), x -> x.ask(3, 0, 0), 0);
        EDGE.asked("a wood", last.and(x -> x.wood(0, 5)), x -> x.ask(3, 0, 0), -1);
    }

    private static void askOfTheRestAlone() {
        EDGE.asked("2 is known as heard", strokes(), x -> x.ask(3, 4, 0), 1);
        EDGE.asked("2 is known as not heard", strokes(), x -> x.ask(3, 0, 4), 3);
        EDGE.asked("2 and 3 are known as heard", strokes(), x -> x.ask(3, 12, 0), 1);
        EDGE.asked("1, 2 and 3 are known as heard", strokes(), x -> x.ask(3, 14, 0), -1);
    }
}
