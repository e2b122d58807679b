/** The edges of promises 18 to 22, a test for each sentence that names one. */
public final class RopesEdgeTest {
    private static final Edge EDGE = new Edge();

    public static void main(String[] args) {
        ropesNumbers();
        ropesOfNoNeeds();
        ropesHeardInAnyWind();
        ropesWhenAllIsHeard();
        ropesOfTwelveNeeds();
        ropesTheFirstOfLikeOnes();
        ropesByWhoRingsEachBell();
        ropesCountNeeds();
        ropesMindNoTempers();
        ropesNeverNone();
        ropeNumbers();
        ringNumbers();
        ringBeyondItsEnd();
        ringOfNone();
        ringIsTwoAtLeast();
        ringOfAllSix();
        ringOfTheFewest();
        ringTheFirstOfLikeOnes();
        ringByItsOwnOrder();
        ringBehindWoods();
        wordNumbers();
        wordThatNobodyHears();
        wordAllRound();
        wordGoesByRopes();
        wordOfThreeChangedRopes();
        fellOfNothing();
        fellOfAllEight();
        fellOfTheFirstAndTheLastBell();
        fellTwice();
        fellNone();
        fellTheFewest();
        fellTheLeastBitsOfLikeOnes();
        fellMindsNoTempers();
        EDGE.end();
    }

    private static void ropesAre(String what, Valleys valley, int most, int... rings) {
        EDGE.asked(what + ": ropes(-1)", valley, x -> x.ropes(-1), most);
        for (int i = 0; i < rings.length; i++) {
            int bell = i;
            EDGE.asked(what + ": ropes(" + bell + ")", valley, x -> x.ropes(bell), rings[bell]);
        }
    }

    private static int[] own(int n) {
        int[] own = new int[n];
        for (int bell = 0; bell < n; bell++) {
            own[bell] = bell;
        }
        return own;
    }

    // ---- 18: (bell = NONE), who rings a BELL. NONE: none. BAD: -10

    private static void ropesNumbers() {
        for (Valleys valley : Valleys.ALL) {
            for (int bell : Edge.numbersOutside(-1, valley.n - 1)) {
                EDGE.badApart("ropes " + bell, valley, x -> x.ropes(bell));
            }
        }
    }

    private static void ropesOfNoNeeds() {
        for (int n = 2; n <= 6; n++) {
            int last = n - 1;
            ropesAre("no needs", Valleys.villages(n), 0, own(n));
            ropesAre("no needs, ropes changed", Valleys.villages(n).and(x -> x.change(0, last)), 0, own(n));
            ropesAre("a need seen by none", Valleys.villages(n).and(x -> x.need(last, 0, 0)), 0, own(n));
            ropesAre("a need in which nothing is heard", Valleys.villages(n).and(x -> x.need(0, 3, 2)), 0, own(n));
        }
    }

    /** Village 1 alone sees the need, bell 2 alone is heard there: 1 must ring bell 2, unless it hears it. */
    private static void ropesHeardInAnyWind() {
        Valleys need = Valleys.of(x -> {
            x.hears(2, 0, 0, true);
            x.need(0, 0, 2);
        });
        ropesAre("1 does not hear bell 2", need, 1, 0, 2, 1, 3);
        for (int w = 0; w < 4; w++) {
            int wind = w;
            Valleys hears = need.and(x -> x.hears(2, wind, 1, true));
            ropesAre("1 hears bell 2 in wind " + wind, hears, 0, 0, 1, 2, 3);
            ropesAre("but not behind a wood", hears.and(x -> x.wood(2, 1)), 1, 0, 2, 1, 3);
            Valleys idle = need.and(x -> x.hears(1, wind, 2, true));
            ropesAre("2 hears bell 1 in wind " + wind + ", and must not ring it for nothing", idle, 1, 0, 3, 1, 2);
        }
    }

    private static void ropesWhenAllIsHeard() {
        for (int n = 2; n <= 6; n++) {
            int last = n - 1;
            Valleys loud = Valleys.villages(n).and(x -> {
                for (int bell = 0; bell <= last; bell++) {
                    for (int v = 0; v <= last; v++) {
                        x.hears(bell, v % 4, v, true);
                    }
                }
                x.need(0, 0, 2);
                x.need(1, 1, 1);
            });
            ropesAre("each its own, since it hears all others", loud, 2, own(n));
            ropesAre("whoever rings them now", loud.and(x -> x.change(0, last)), 2, own(n));
        }
    }

    private static void ropesOfTwelveNeeds() {
        Valleys twelve = Valleys.villages(6).and(x -> {
            x.hears(5, 3, 0, true);
            for (int i = 0; i < 12; i++) {
                x.need(0, 3, i < 11 ? 18 : 2);
            }
        });
        ropesAre("1 sees all twelve, 4 eleven", twelve, 12, 0, 2, 3, 4, 5, 1);
        ropesAre("both see eleven: 1 rings bell 1 in the first way", twelve.and(x -> x.undo()), 11, 0, 1, 2, 3, 5, 4);
    }

    private static void ropesTheFirstOfLikeOnes() {
        Valleys need = Valleys.villages(6).and(x -> {
            x.hears(0, 0, 1, true);
            x.need(1, 0, 60);
        });
        ropesAre("2 to 5 see it: 2 rings bell 0, then 0, 1, ..", need, 1, 2, 0, 1, 3, 4, 5);
        Valleys two = need.and(x -> {
            x.hears(1, 0, 0, true);
            x.need(0, 0, 60);
        });
        ropesAre("and 3 bell 1", two, 2, 2, 3, 0, 1, 4, 5);
    }

    /** The first by who rings bell 0, 1, .. is not the first by which bell village 0, 1, .. rings. */
    private static void ropesByWhoRingsEachBell() {
        Valleys need = Valleys.of(x -> {
            x.hears(0, 0, 1, true);
            x.hears(1, 0, 0, true);
            x.hears(3, 0, 2, true);
            x.need(1, 0, 8);
        });
        ropesAre("3 rings bell 0; 0 not bell 1, 2 not bell 3", need, 1, 3, 1, 2, 0);
    }

    /** 4 and 5 could both be due for the two needs of 0; 4 is of more use where it alone sees one. */
    private static void ropesCountNeeds() {
        Valleys needs = Valleys.villages(6).and(x -> {
            x.hears(2, 0, 0, true);
            x.hears(3, 0, 0, true);
            x.hears(0, 0, 1, true);
            x.need(0, 0, 48);
            x.need(0, 0, 48);
            x.need(1, 0, 16);
        });
        ropesAre("needs count, not how many are due", needs, 3, 4, 0, 1, 5, 2, 3);
    }

    private static void ropesMindNoTempers() {
        Valleys proud = Valleys.of(x -> {
            x.hears(0, 0, 1, true);
            x.need(1, 0, 4);
            x.temper(2, 4);
        });
        EDGE.asked("2 would not ring", proud.and(x -> x.change(0, 2)), x -> x.rang(0, 1), 0);
        ropesAre("but it is due", proud, 1, 2, 0, 1, 3);
    }

    /** Each may ring its own, so that there always is a way. */
    private static void ropesNeverNone() {
        for (Valleys valley : Valleys.ALL) {
            boolean none = valley.make().ropes(-1) < 0;
            EDGE.due("there is a way to give ropes", none ? 1 : 0, 0);
        }
    }

    // ---- 19: who rings a BELL now. BAD

    private static void ropeNumbers() {
        for (Valleys valley : Valleys.ALL) {
            EDGE.badOutside("rope", 0, valley.n - 1, valley, BlindBells::rope);
        }
        for (int n = 2; n <= 6; n++) {
            int last = n - 1;
            EDGE.asked("the last bell", Valleys.villages(n), x -> x.rope(last), last);
            Valleys changed = Valleys.villages(n).and(x -> x.change(0, last));
            EDGE.asked("the last bell, changed", changed, x -> x.rope(last), 0);
            EDGE.asked("the first bell, changed", changed, x -> x.rope(0), last);
        }
    }

    // ---- 20: how many (i = NONE; 0: there is none), the i-th. -5: not so many. BAD: -10

    private static void ringNumbers() {
        for (Valleys valley : Valleys.ALL) {
            for (int i : new int[] {-2, -3, -5, -10, -32, -256, Integer.MIN_VALUE + 1, Integer.MIN_VALUE}) {
                EDGE.badApart("ring " + i, valley, x -> x.ring(i));
            }
        }
    }

    private static void ringBeyondItsEnd() {
        for (Valleys valley : Valleys.ALL) {
            int size = valley.make().ring(-1);
            for (int i : new int[] {size, size + 1, 6, 7, 32, 256, Integer.MAX_VALUE - 1, Integer.MAX_VALUE}) {
                EDGE.asked("not so many: " + i, valley, x -> x.ring(i), -5);
            }
        }
    }

    private static void ringIs(String what, Valleys valley, int... villages) {
        EDGE.asked(what + ": ring(-1)", valley, x -> x.ring(-1), villages.length);
        for (int i = 0; i < villages.length; i++) {
            int at = i;
            EDGE.asked(what + ": ring(" + at + ")", valley, x -> x.ring(at), villages[at]);
        }
        EDGE.asked(what + ": no more", valley, x -> x.ring(villages.length), -5);
    }

    private static Valleys favours(int n, int[]... fromTo) {
        return Valleys.villages(n).and(x -> {
            for (int[] pair : fromTo) {
                x.hears(pair[0], pair[1] % 4, pair[1], true);
            }
        });
    }

    private static void ringOfNone() {
        for (int n = 2; n <= 6; n++) {
            ringIs("nothing is heard", Valleys.villages(n));
        }
        ringIs("a chain", favours(6, new int[][] {{0, 1}, {1, 2}, {2, 3}, {3, 4}, {4, 5}, {0, 5}, {0, 3}}));
    }

    private static void ringIsTwoAtLeast() {
        Valleys itself = Valleys.of(x -> {
            x.hears(0, 0, 1, true);
            x.change(0, 1);
        });
        ringIs("1 favours itself alone", itself);
        Valleys two = itself.and(x -> {
            x.hears(0, 1, 0, true);
            x.hears(0, 0, 2, true);
            x.hears(2, 0, 1, true);
        });
        ringIs("1 favours itself and 2, 2 favours 1", two, 1, 2);
        ringIs("two of two", favours(2, new int[][] {{0, 1}, {1, 0}}), 0, 1);
    }

    private static void ringOfAllSix() {
        ringIs("upwards", favours(6, new int[][] {{0, 1}, {1, 2}, {2, 3}, {3, 4}, {4, 5}, {5, 0}}), 0, 1, 2, 3, 4, 5);
        ringIs("downwards", favours(6, new int[][] {{0, 5}, {5, 4}, {4, 3}, {3, 2}, {2, 1}, {1, 0}}), 0, 5, 4, 3, 2, 1);
        ringIs("the last two", favours(6, new int[][] {{4, 5}, {5, 4}, {0, 4}, {1, 5}}), 4, 5);
    }

    private static void ringOfTheFewest() {
        int[][] threeAndTwo = {{0, 1}, {1, 2}, {2, 0}, {3, 4}, {4, 3}};
        ringIs("two, though three begin with less", favours(6, threeAndTwo), 3, 4);
        int[][] fourAndThree = {{0, 1}, {1, 2}, {2, 3}, {3, 0}, {3, 4}, {4, 5}, {5, 3}};
        ringIs("three, though four begin with less", favours(6, fourAndThree), 3, 4, 5);
    }

    private static void ringTheFirstOfLikeOnes() {
        ringIs("from the least on", favours(4, new int[][] {{3, 1}, {1, 2}, {2, 3}}), 1, 2, 3);
        ringIs("by the first", favours(6, new int[][] {{3, 2}, {2, 3}, {4, 1}, {1, 4}}), 1, 4);
        ringIs("by the second", favours(6, new int[][] {{0, 5}, {5, 0}, {0, 3}, {3, 0}}), 0, 3);
        int[][] third = {{0, 1}, {1, 5}, {5, 0}, {1, 4}, {4, 0}};
        ringIs("by the third", favours(6, third), 0, 1, 4);
        int[][] second = {{0, 2}, {2, 1}, {1, 0}, {0, 1 + 2}, {3, 4}, {4, 0}};
        ringIs("by the second, not by the third", favours(6, second), 0, 2, 1);
    }

    /** Of 0, 2, 4 and 0, 3, 1 the first is told by the numbers as they follow, not by who is in it. */
    private static void ringByItsOwnOrder() {
        int[][] two = {{0, 3}, {3, 1}, {1, 0}, {0, 2}, {2, 4}, {4, 0}};
        ringIs("by the second, though 1 is in the other one", favours(6, two), 0, 2, 4);
    }

    private static void ringBehindWoods() {
        Valleys two = favours(2, new int[][] {{0, 1}, {1, 0}});
        ringIs("a wood shuts it", two.and(x -> x.wood(0, 1)));
        Valleys otherWind = two.and(x -> x.hears(0, 3, 1, true)).and(x -> x.wood(0, 1));
        ringIs("in each wind", otherWind);
    }

    // ---- 21: ROUNDS (0), who knows (1). BAD

    private static void wordNumbers() {
        for (Valleys valley : Valleys.ALL) {
            for (int side = 0; side < 2; side++) {
                int what = side;
                EDGE.badOutside("word: village", 0, valley.n - 1, valley, (x, v) -> x.word(v, 0, what));
                EDGE.badOutside("word: wind", 0, 3, valley, (x, wind) -> x.word(0, wind, what));
            }
            EDGE.badOutside("word: what", 0, 1, valley, (x, what) -> x.word(0, 0, what));
        }
    }

    private static void wordThatNobodyHears() {
        for (int n = 2; n <= 6; n++) {
            int last = n - 1;
            EDGE.asked("no round", Valleys.villages(n), x -> x.word(last, 3, 0), 0);
            EDGE.asked("it knows alone", Valleys.villages(n), x -> x.word(last, 3, 1), 1 << last);
        }
    }

    private static void wordAllRound() {
        for (int n = 2; n <= 6; n++) {
            int last = n - 1;
            Valleys chain = Valleys.villages(n).and(x -> {
                for (int v = 0; v < last; v++) {
                    x.hears(v, 3, v + 1, true);
                }
            });
            EDGE.asked("one more each round", chain, x -> x.word(0, 3, 0), last);
            EDGE.asked("all know", chain, x -> x.word(0, 3, 1), (1 << last + 1) - 1);
            EDGE.asked("from the last: no round", chain, x -> x.word(last, 3, 0), 0);
            EDGE.asked("in another wind: no round", chain, x -> x.word(0, 2, 0), 0);
            Valleys back = chain.and(x -> x.hears(last, 3, 0, true));
            EDGE.asked("a round with nobody more does not count", back, x -> x.word(0, 3, 0), last);
            EDGE.asked("from the last", back, x -> x.word(last, 3, 0), last);
            Valleys shut = back.and(x -> x.wood(0, 1));
            EDGE.asked("a wood ends it", shut, x -> x.word(0, 3, 1), 1);
            Valleys atOnce = Valleys.villages(n).and(x -> {
                for (int v = 0; v < last; v++) {
                    x.hears(last, 0, v, true);
                }
            });
            EDGE.asked("all at once: one round", atOnce, x -> x.word(last, 0, 0), 1);
            EDGE.asked("all at once: all know", atOnce, x -> x.word(last, 0, 1), (1 << last + 1) - 1);
        }
    }

    private static void wordGoesByRopes() {
        Valleys changed = Valleys.of(x -> {
            x.hears(0, 0, 1, true);
            x.hears(0, 0, 3, true);
            x.change(0, 1);
        });
        EDGE.asked("0 rings bell 1, heard nowhere", changed, x -> x.word(0, 0, 0), 0);
        EDGE.asked("1 rings bell 0, heard in 3 and in itself", changed, x -> x.word(1, 0, 1), 10);
        EDGE.asked("one round", changed, x -> x.word(1, 0, 0), 1);
        Valleys itself = Valleys.of(x -> {
            x.hears(0, 0, 1, true);
            x.change(0, 1);
        });
        EDGE.asked("who hears itself is nobody more", itself, x -> x.word(1, 0, 0), 0);
    }

    private static void wordOfThreeChangedRopes() {
        Valleys three = Valleys.of(x -> {
            x.change(0, 1);
            x.change(1, 2);
            x.hears(2, 0, 3, true);
        });
        EDGE.asked("0 rings bell 2, heard in 3", three, x -> x.word(0, 0, 1), 9);
        EDGE.asked("1 rings bell 0, heard nowhere", three, x -> x.word(1, 0, 1), 2);
        EDGE.asked("2 rings bell 1, heard nowhere", three, x -> x.word(2, 0, 1), 4);
    }

    // ---- 22: FELL, as bits. NONE

    private static Valleys woods(int n) {
        return Valleys.of(x -> {
            x.hears(1, 0, 0, true);
            for (int i = 0; i < n; i++) {
                x.wood(1, 0);
            }
            x.need(0, 0, 2);
        });
    }

    private static void fellOfNothing() {
        EDGE.asked("no needs, no woods", Valleys.NEW, BlindBells::fell, 0);
        EDGE.asked("no needs, eight woods", woods(8).and(x -> x.undo()), BlindBells::fell, 0);
        EDGE.asked("a need that is met, no woods", woods(0), BlindBells::fell, 0);
        EDGE.asked("a need that is met, a wood elsewhere", woods(0).and(x -> x.wood(2, 0)), BlindBells::fell, 0);
    }

    private static void fellOfAllEight() {
        for (int n = 1; n <= 8; n++) {
            EDGE.asked(n + " in one place", woods(n), BlindBells::fell, (1 << n) - 1);
        }
        Valleys lastAlone = Valleys.of(x -> {
            x.hears(1, 0, 0, true);
            for (int i = 0; i < 7; i++) {
                x.wood(0, 1);
            }
            x.wood(1, 0);
            x.need(0, 0, 2);
        });
        EDGE.asked("the eighth alone", lastAlone, BlindBells::fell, 128);
    }

    private static void fellOfTheFirstAndTheLastBell() {
        for (int n = 2; n <= 6; n++) {
            int last = n - 1;
            Valleys first = Valleys.villages(n).and(x -> x.hears(0, 3, last, true)).and(x -> x.need(last, 3, 1));
            EDGE.asked("the first bell", first.and(x -> x.wood(0, last)), BlindBells::fell, 1);
            Valleys end = Valleys.villages(n).and(x -> x.hears(last, 3, 0, true)).and(x -> x.need(0, 3, 1 << last));
            EDGE.asked("the last bell", end.and(x -> x.wood(last, 0)), BlindBells::fell, 1);
        }
    }

    /** What one call has found out of the woods is nothing to the next. */
    private static void fellTwice() {
        EDGE.asked("the same answer twice", woods(8), x -> x.fell() == x.fell() ? x.fell() : -9, 255);
        Valleys anew = woods(8).and(x -> x.fell()).and(x -> x.villages(4));
        EDGE.asked("all woods are gone", anew.and(x -> x.hears(1, 0, 0, true)).and(x -> x.need(0, 0, 2)),
            BlindBells::fell, 0);
    }

    private static void fellNone() {
        EDGE.asked("a need that nobody sees", Valleys.of(x -> x.need(0, 0, 0)), BlindBells::fell, -1);
        EDGE.asked("one that nobody is heard in", Valleys.of(x -> x.need(0, 0, 14)), BlindBells::fell, -1);
        EDGE.asked("one of two", woods(8).and(x -> x.need(0, 1, 2)), BlindBells::fell, -1);
        EDGE.asked("who rings the bell does not see it", woods(1).and(x -> x.change(1, 2)), BlindBells::fell, -1);
        Valleys twelve = woods(1).and(x -> {
            for (int i = 1; i < 11; i++) {
                x.need(0, 0, 2);
            }
            x.need(0, 0, 0);
        });
        EDGE.asked("the twelfth", twelve, BlindBells::fell, -1);
    }

    /** Bells 1, 2 and 3 are heard in 0; woods in the order told. */
    private static Valleys behind(int seen, int... bells) {
        return Valleys.of(x -> {
            for (int bell = 1; bell < 4; bell++) {
                x.hears(bell, 0, 0, true);
            }
            for (int bell : bells) {
                x.wood(bell, 0);
            }
            x.need(0, 0, seen);
        });
    }

    private static void fellTheFewest() {
        EDGE.asked("the one, not the two of less bits", behind(14, 1, 1, 2, 2, 3), BlindBells::fell, 16);
        EDGE.asked("none, when one bell has no wood", behind(14, 1, 2), BlindBells::fell, 0);
        EDGE.asked("but that one does not see", behind(6, 1, 2), BlindBells::fell, 1);
        EDGE.asked("one for both needs", behind(6, 1, 2, 3).and(x -> x.need(0, 0, 12)), BlindBells::fell, 2);
    }

    private static void fellTheLeastBitsOfLikeOnes() {
        EDGE.asked("of three the first", behind(14, 1, 2, 3), BlindBells::fell, 1);
        EDGE.asked("in their order", behind(14, 3, 2, 1), BlindBells::fell, 1);
        EDGE.asked("that does good", behind(6, 3, 2, 1), BlindBells::fell, 2);
        EDGE.asked("two and two", behind(14, 1, 2, 3, 3, 2, 1), BlindBells::fell, 12);
        EDGE.asked("one each", behind(2, 3, 2, 1).and(x -> x.need(0, 0, 12)), BlindBells::fell, 5);
    }

    private static void fellMindsNoTempers() {
        Valleys proud = woods(2).and(x -> x.temper(1, 4));
        EDGE.asked("1 would not ring, but is due", proud, BlindBells::fell, 3);
    }
}
