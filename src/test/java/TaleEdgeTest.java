/** The edges of promises 11 to 13, a test for each sentence that names one. */
public final class TaleEdgeTest {
    private static final String SOME_VILLAGES = "villages 3;";
    private static final int MOST_BYTES = 250;
    private static final Edge EDGE = new Edge();

    public static void main(String[] args) {
        typeNumbers();
        typeTakesTheLowestBytes();
        typeTakesTheHighestOfThemFirst();
        typeOfAHighestBitSet();
        typeUpTo250();
        typeBadGoesAheadOfFull();
        clearOfEmptyAndFull();
        clearLeavesAllElse();
        readOfAnEmptyText();
        readOfBlanksAlone();
        readOfATextThatEndsTooEarly();
        readOfAFullText();
        wordsThatAreNone();
        villagesIsFirstOfAll();
        villagesIsOnce();
        numbersOfOneOrTwoFigures();
        numbersTooManyOrTooFew();
        bytesThatBeginNone();
        bytesWithTheHighestBitSet();
        theFirstFaultIsTold();
        faultGoesAheadOfARefusedItem();
        villagesItemIs2To6();
        itemNumbersAreAsOfTheirCalls();
        itemsRefusedAsNoOrFull();
        theFirstRefusedItemIsTold();
        refusedItemsCountInNoStatus();
        nothingIsLeftOfATaleThatWasRefused();
        toldAnewByTheseAlone();
        toldInTheirOrder();
        EDGE.end();
    }

    private static Valleys text(String text) {
        return Valleys.BUSY_4.and(x -> {
            x.clear();
            Check.type(x, text);
        });
    }

    /** The FAULT of a text; nothing changes by it, and STATUS does not count it. */
    private static void fault(String text, int place) {
        EDGE.asked("fault: " + text, text(text), BlindBells::read, -10 - place);
    }

    /** The first item refused; nothing changes by it, and STATUS does not count it. */
    private static void refused(String text, int item) {
        EDGE.asked("refused: " + text, text(text), BlindBells::read, -1000 - item);
    }

    private static void read(String text, int items) {
        EDGE.taken("read: " + text, text(text), BlindBells::read, items);
    }

    // ---- 11: the lowest n (1 .. 8) bytes of v, the highest of them first. BAD; FULL

    private static void typeNumbers() {
        for (Valleys valley : Valleys.ALL) {
            EDGE.badOutside("type: n", 1, 8, valley, (x, n) -> x.type(0x20202020L, n));
        }
        EDGE.taken("type: the fewest", Valleys.NEW, x -> x.type(0, 1), 1);
        EDGE.taken("type: the most", Valleys.NEW, x -> x.type(0, 8), 8);
    }

    /** All bytes above the lowest n are such as would be at fault. */
    private static void typeTakesTheLowestBytes() {
        for (int n = 1; n <= 8; n++) {
            BlindBells x = new BlindBells();
            String tale = SOME_VILLAGES + " ".repeat(n);
            for (int from = 0; from + n <= tale.length(); from += n) {
                long v = -1;
                for (int i = from; i < from + n; i++) {
                    v = v << 8 | tale.charAt(i);
                }
                EDGE.due("type " + n, x.type(v, n), from + n);
            }
            EDGE.due("read, typed by " + n, x.read(), 1);
        }
    }

    private static void typeTakesTheHighestOfThemFirst() {
        BlindBells x = new BlindBells();
        for (int n = 1; n <= 8; n++) {
            x.clear();
            // x, then blanks, so that the fault is where the highest of them is
            x.type(' ', 1);
            x.type((long) 'x' << 8 * (n - 1) | 0x20202020202020L >> 8 * (8 - n), n);
            EDGE.due("the highest of " + n + " first", x.read(), -11);
        }
    }

    private static void typeOfAHighestBitSet() {
        BlindBells x = new BlindBells();
        EDGE.due("the least long, 8 bytes", x.type(Long.MIN_VALUE, 8), 8);
        EDGE.due("the byte 128 begins none", x.read(), -10);
        x.clear();
        EDGE.due("its highest byte is not among 7", x.type(0x8020202020202020L, 7), 7);
        EDGE.due("seven blanks", x.read(), -17);
        x.clear();
        EDGE.due("-1, one byte", x.type(-1L, 1), 1);
        EDGE.due("the byte 255 begins none", x.read(), -10);
        x.clear();
        EDGE.due("the greatest long, 8 bytes", x.type(Long.MAX_VALUE, 8), 8);
        EDGE.due("the byte 127 begins none", x.read(), -10);
        x.clear();
        EDGE.due("the int's sign is not the long's", x.type(0x20202020F6F6F6F6L, 8), 8);
        EDGE.due("the fifth byte", x.read(), -14);
    }

    private static void typeUpTo250() {
        for (int n = 1; n <= 8; n++) {
            int bytes = n;
            Valleys fits = text(" ".repeat(MOST_BYTES - n));
            EDGE.taken("the last " + n + " of 250", fits, x -> x.type(0, bytes), MOST_BYTES);
            Valleys oneLess = text(SOME_VILLAGES + " ".repeat(MOST_BYTES + 1 - n - SOME_VILLAGES.length()));
            EDGE.full(n + " are one too many", oneLess, x -> x.type(0, bytes));
            EDGE.full(n + " when there are 250", Valleys.CRAMMED, x -> x.type(0, bytes));
            // nothing of what was refused has come to the text
            BlindBells x = oneLess.make();
            x.type(-1L, n);
            EDGE.due("all that fits still fits", n == 1 ? 250 : x.type(0x2020202020202020L, n - 1), 250);
            EDGE.due("and the text is as it was", x.read(), 1);
        }
    }

    private static void typeBadGoesAheadOfFull() {
        EDGE.bad("250 bytes, n 0", Valleys.CRAMMED, x -> x.type(-1L, 0));
        EDGE.bad("250 bytes, n 9", Valleys.CRAMMED, x -> x.type(-1L, 9));
        EDGE.bad("250 bytes, n the greatest", Valleys.CRAMMED, x -> x.type(-1L, Integer.MAX_VALUE));
        EDGE.bad("250 bytes, n the least", Valleys.CRAMMED, x -> x.type(-1L, Integer.MIN_VALUE));
    }

    // ---- 12: THE TEXT is empty: how many it had

    private static void clearOfEmptyAndFull() {
        EDGE.asked("clear of an empty one", Valleys.NEW, BlindBells::clear, 0);
        EDGE.taken("clear of one byte", text("v"), BlindBells::clear, 1);
        EDGE.taken("clear of 250", Valleys.CRAMMED, BlindBells::clear, 250);
        Valleys cleared = Valleys.CRAMMED.and(x -> x.clear());
        EDGE.asked("cleared: clear", cleared, BlindBells::clear, 0);
        EDGE.asked("cleared: count(4)", cleared, x -> x.count(4), 0);
        EDGE.asked("cleared: read", cleared, BlindBells::read, -10);
        EDGE.taken("cleared: type", cleared, x -> x.type(0, 8), 8);
    }

    private static void clearLeavesAllElse() {
        BlindBells x = Valleys.CRAMMED.make();
        x.clear();
        Check.type(x, "villages 5;hears 4 3 0;wood 0 4;temper 4 5;friend 4 0;need 4 3 15;" + " ".repeat(184));
        if (!Sight.of(x).equals(Valleys.CRAMMED.sight())) {
            EDGE.due("clear, and the same text typed again: all is as it was", 1, 0);
        }
    }

    // ---- 13: FAULT: the TEXT's length, if it ends too early (an empty one, too)

    private static void readOfAnEmptyText() {
        EDGE.asked("read of an empty text", Valleys.NEW, BlindBells::read, -10);
        fault("", 0);
    }

    private static void readOfBlanksAlone() {
        fault(" ", 1);
        fault("  ", 2);
        fault(" ".repeat(249), 249);
        fault(" ".repeat(MOST_BYTES), MOST_BYTES);
    }

    private static void readOfATextThatEndsTooEarly() {
        String[] tokens = {"villages", " 6", ";", "hears", " 0", " 0", " 1", ";", "wood", " 0", " 1", ";",
            "temper", " 0", " 1", ";", "friend", " 0", " 1", ";", "need", " 0", " 0", " 2", ";"};
        StringBuilder text = new StringBuilder();
        int items = 0;
        for (String token : tokens) {
            text.append(token);
            if (token.equals(";")) {
                items++;
                read(text.toString(), items);
                read(text + " ", items);
            } else {
                fault(text.toString(), text.length());
                fault(text + "  ", text.length() + 2);
            }
        }
        // a number may go on, but need not: its item has not ended
        fault("villages 3;wood 0 1", 19);
        fault("villages 3;wood 0 11", 20);
    }

    private static void readOfAFullText() {
        String blanks = " ".repeat(MOST_BYTES - SOME_VILLAGES.length());
        read(blanks + SOME_VILLAGES, 1);
        read(SOME_VILLAGES + blanks, 1);
        fault(SOME_VILLAGES + blanks.substring(1) + "x", 249);
        fault(SOME_VILLAGES + blanks.substring(1) + ";", 249);
        fault(SOME_VILLAGES + blanks.substring(1) + "9", 249);
        fault(SOME_VILLAGES + blanks.substring(4) + "wood", MOST_BYTES);
        fault(blanks + "villages 3 ", MOST_BYTES);
        fault(blanks + "villages 33", MOST_BYTES);
        fault(blanks + "villages333", 247);
    }

    // ---- FAULT: a word that is none

    private static void wordsThatAreNone() {
        String[] words = {"villages", "hears", "wood", "temper", "friend", "need"};
        for (String word : words) {
            String tale = word.equals("villages") ? "" : SOME_VILLAGES;
            int at = tale.length();
            fault(tale + word.substring(1) + " 0 0 1;", at);
            fault(tale + word.substring(0, word.length() - 1) + " 0 0 1;", at);
            fault(tale + word + "s 0 0 1;", at);
            fault(tale + "a" + word + " 0 0 1;", at);
            fault(tale + word + word + " 0 0 1;", at);
            fault(tale + word.substring(0, word.length() - 1) + "a 0 0 1;", at);
            fault(tale + word.substring(0, 2) + " " + word.substring(2) + " 0 0 1;", at);
            fault(tale + word.toUpperCase() + " 0 0 1;", at);
            fault(tale + word.substring(0, 1).toUpperCase() + word.substring(1) + " 0 0 1;", at);
        }
        fault(SOME_VILLAGES + "friendof 0 1;", 11);
        fault(SOME_VILLAGES + "change 0 1;", 11);
        fault(SOME_VILLAGES + "sign 1;", 11);
        fault(SOME_VILLAGES + "a", 11);
        fault(SOME_VILLAGES + "z", 11);
        fault(SOME_VILLAGES + "z".repeat(239), 11);
    }

    // ---- FAULT: villages again, anything ahead of it

    private static void villagesIsFirstOfAll() {
        fault("hears 0 0 1;", 0);
        fault("wood 0 1;", 0);
        fault("temper 0 0;", 0);
        fault("friend 0 0;", 0);
        fault("need 0 0 2;" + SOME_VILLAGES, 0);
        fault("  wood 0 1;" + SOME_VILLAGES, 2);
        fault(";" + SOME_VILLAGES, 0);
        fault(" ;", 1);
        fault("3 " + SOME_VILLAGES, 0);
        fault("   3;", 3);
    }

    private static void villagesIsOnce() {
        fault(SOME_VILLAGES + SOME_VILLAGES, 11);
        fault(SOME_VILLAGES + "villages", 11);
        fault(SOME_VILLAGES + "wood 0 1;" + "  " + SOME_VILLAGES, 22);
        fault("villages villages 3;", 9);
        fault("villages 3 villages 3;", 11);
        fault("villages 9;villages 3;", 11);
    }

    // ---- FAULT: figures (1 or 2 are one number), a third figure's number

    private static void numbersOfOneOrTwoFigures() {
        read("villages 2;", 1);
        read("villages 02;", 1);
        fault("villages 002;", 9);
        fault("villages 222;", 9);
        fault("villages   0000;", 11);
        read("villages 3;wood 00 01;temper 02 05;need 00 03 06;", 4);
        fault("villages 3;wood 000 1;", 16);
        fault("villages 3;wood 0 001;", 18);
        fault("villages 3;wood 0 1" + "1".repeat(231), 18);
        refused("villages 99;", 0);
        refused("villages 3;temper 0 99;", 1);
        // 1 and 2 are two numbers, if there is a blank between
        refused("villages 6;temper 12 0;", 1);
        read("villages 6;temper 1 2;", 2);
        fault("villages 6;temper 1 2 0;", 22);
    }

    private static void numbersTooManyOrTooFew() {
        fault("villages;", 8);
        fault("villages 3 3;", 11);
        fault("villages 3;hears 0 0;", 20);
        fault("villages 3;hears 0 0 1 1;", 23);
        fault("villages 3;wood 0;", 17);
        fault("villages 3;wood 0 1 1;", 20);
        fault("villages 3;temper;", 17);
        fault("villages 3;temper 0 0 0;", 22);
        fault("villages 3;friend 0 friend", 20);
        fault("villages 3;friend 0 0 friend", 22);
        fault("villages 3;need 0 0 wood", 20);
        fault("villages 3;need 0 0 2 0;", 22);
        fault("villages 3;;", 11);
        fault("villages 3; ;", 12);
        fault("villages 3;0;", 11);
    }

    // ---- FAULT: a byte that begins none; blanks (32) between

    private static void bytesThatBeginNone() {
        for (int b = 0; b < 256; b++) {
            char odd = (char) b;
            boolean letter = b >= 'a' && b <= 'z';
            boolean figure = b >= '0' && b <= '9';
            if (b == ' ') {
                read(odd + SOME_VILLAGES, 1);
                read("villages 3" + odd + ";", 1);
                read("villages" + odd + "3;", 1);
            } else {
                fault(odd + SOME_VILLAGES, 0);
            }
            if (figure) {
                refused("villages 3" + odd + ";", 0);
            } else if (b == ';') {
                fault("villages 3" + odd + ";", 11);
            } else if (b != ' ') {
                fault("villages 3" + odd + ";", 10);
            }
            if (letter) {
                fault("villages" + odd + "3;", 0);
            } else if (b != ' ' && !figure) {
                fault("villages" + odd + "3;", 8);
            }
            if (b != ' ') {
                fault(SOME_VILLAGES + odd, 11);
            }
        }
    }

    private static void bytesWithTheHighestBitSet() {
        for (int i = 0; i < SOME_VILLAGES.length(); i++) {
            char high = (char) (SOME_VILLAGES.charAt(i) | 128);
            String text = SOME_VILLAGES.substring(0, i) + high + SOME_VILLAGES.substring(i + 1);
            // a word cut in two by such a byte is none
            fault(text, i < 8 ? 0 : i);
        }
    }

    private static void theFirstFaultIsTold() {
        fault("villages x y;", 9);
        fault("villages 3;x;y;", 11);
        fault("villages 3 ! ?", 11);
        fault("villages 333 ! ?", 9);
        fault("x! villages", 0);
    }

    private static void faultGoesAheadOfARefusedItem() {
        fault("villages 7;x", 11);
        fault("villages 7;wood 0 1", 19);
        fault("villages 3;wood 0 0;!", 20);
        fault("villages 3;wood 0 0;need 0 0 002;", 29);
        fault("villages 3;wood 0 0;" + SOME_VILLAGES, 20);
    }

    // ---- 13: the first ITEM (0 on) that is refused (as its call is): nothing changes

    private static void villagesItemIs2To6() {
        for (int n = 0; n <= 99; n++) {
            if (n >= 2 && n <= 6) {
                read("villages " + n + ";", 1);
            } else {
                refused("villages " + n + ";", 0);
            }
        }
    }

    /** Each number of an item: the last that is taken, the first beyond it, and one far out. */
    private static void itemNumbersAreAsOfTheirCalls() {
        for (int n = 2; n <= 6; n++) {
            String tale = "villages " + n + ";";
            int last = n - 1;
            int[] beyond = {n, n + 1, 32, 33, 64, 99};
            int[] beyondWinds = {4, 5, 32, 33, 64, 99};
            read(tale + "hears 0 0 " + last + ";hears " + last + " 3 0;", 3);
            read(tale + "wood 0 " + last + ";wood " + last + " 0;", 3);
            read(tale + "temper 0 5;temper " + last + " 0;", 3);
            read(tale + "friend 0 " + last + ";friend " + last + " 0;friend 0 0;", 4);
            read(tale + "need 0 0 " + ((1 << n) - 2) + ";need " + last + " 3 " + ((1 << last) - 1) + ";", 3);
            for (int odd : beyond) {
                refused(tale + "hears " + odd + " 0 1;", 1);
                refused(tale + "hears 0 0 " + odd + ";", 1);
                refused(tale + "wood " + odd + " 1;", 1);
                refused(tale + "wood 0 " + odd + ";", 1);
                refused(tale + "temper " + odd + " 0;", 1);
                refused(tale + "friend " + odd + " 0;", 1);
                refused(tale + "friend 0 " + odd + ";", 1);
                refused(tale + "need " + odd + " 0 0;", 1);
            }
            for (int odd : beyondWinds) {
                refused(tale + "hears 0 " + odd + " 1;", 1);
                refused(tale + "need 0 " + odd + " 2;", 1);
            }
            refused(tale + "temper 0 6;", 1);
            refused(tale + "need 0 0 " + (1 << n) + ";", 1);
            for (int v = 0; v < n; v++) {
                refused(tale + "hears " + v + " 0 " + v + ";", 1);
                refused(tale + "wood " + v + " " + v + ";", 1);
                refused(tale + "need " + v + " 0 " + (1 << v) + ";", 1);
                read(tale + "friend " + v + " " + v + ";", 2);
                read(tale + "need " + v + " 0 0;", 2);
            }
        }
    }

    private static void itemsRefusedAsNoOrFull() {
        refused("villages 2;hears 0 0 1;hears 0 0 1;", 2);
        read("villages 2;hears 0 0 1;hears 0 1 1;", 3);
        read("villages 2;" + "wood 0 1;".repeat(8), 9);
        refused("villages 2;" + "wood 0 1;".repeat(9), 9);
        read("villages 2;" + "need 0 0 2;".repeat(12), 13);
        refused("villages 2;" + "need 0 0 2;".repeat(13), 13);
        // the woods, needs and what is heard of the valley as it is do not count
        read("villages 4;hears 0 0 1;wood 0 1;need 0 0 2;", 4);
        EDGE.taken("a crammed valley is told anew", Valleys.CRAMMED, BlindBells::read, 6);
    }

    private static void theFirstRefusedItemIsTold() {
        refused("villages 3;wood 0 0;wood 1 1;", 1);
        refused("villages 3;wood 0 1;wood 1 1;wood 0 0;", 2);
        refused("villages 9;wood 8 8;", 0);
        refused("villages 9;wood 0 1;", 0);
        String most = "villages2;" + "temper0 0;".repeat(23);
        read(most + "temper1 1;", 25);
        refused(most + "temper1 6;", 24);
    }

    private static void refusedItemsCountInNoStatus() {
        BlindBells x = new BlindBells();
        Check.read(x, "villages 2;wood 0 0;");
        Check.read(x, "villages 2;hears 0 0 1;hears 0 0 1;");
        Check.read(x, "villages 2;" + "wood 0 1;".repeat(9));
        Check.read(x, "villages 7;");
        Check.read(x, "villages");
        for (int what = 0; what <= 2; what++) {
            EDGE.due("items and faults are none: status(" + what + ")", x.status(what), 0);
        }
    }

    private static void nothingIsLeftOfATaleThatWasRefused() {
        String good = "villages 2;need 0 0 2;";
        BlindBells fresh = new BlindBells();
        Check.read(fresh, good);
        String each = "villages 6;hears 0 0 1;wood 0 1;temper 0 1;friend 0 1;need 0 0 2;";
        String[] wrong = {each + "x", each + "wood 0 0;", "villages 6;wood 1", "villages"};
        for (String text : wrong) {
            BlindBells x = new BlindBells();
            EDGE.due("wrong: " + text, Check.read(x, text) < 0 ? 1 : 0, 1);
            EDGE.due("then a good one behind " + text, Check.read(x, good), 2);
            EDGE.due("as if there had been no other", x.digest(), fresh.digest());
            EDGE.due("and nothing shut", x.hears(0, 0, 1, true) + x.heard(0, 0), 3);
        }
    }

    // ---- a TALE is told anew by these alone (no SIGNS, ROPES as at first), in their order

    private static void toldAnewByTheseAlone() {
        for (Valleys valley : Valleys.ALL) {
            BlindBells x = valley.make();
            EDGE.due("read", Check.read(x, "villages 6;"), 1);
            BlindBells fresh = new BlindBells();
            fresh.villages(6);
            Check.type(fresh, "villages 6;");
            EDGE.due("by these alone", x.digest(), fresh.digest());
            EDGE.due("no signs", x.count(3), 0);
            for (int bell = 0; bell < 6; bell++) {
                EDGE.due("ropes as at first", x.rope(bell), bell);
                int next = (bell + 1) % 6;
                EDGE.due("no woods", x.hears(bell, 0, next, true) + x.heard(bell, 0), 1 + (1 << next));
            }
        }
        BlindBells x = Valleys.CRAMMED.make();
        x.rope(6);
        x.read();
        EDGE.due("the text stays", x.count(4), 250);
        EDGE.due("and is read again alike", x.read(), 6);
        EDGE.due("status stays", x.status(0), 1);
        EDGE.due("images stay", x.from(1), 1);
        EDGE.due("as they were kept", x.count(2), 12);
    }

    private static void toldInTheirOrder() {
        BlindBells x = new BlindBells();
        Check.read(x, "villages 3;temper 0 1;temper 0 2;friend 0 1;friend 0 2;"
            + "wood 0 1;wood 1 2;need 0 0 2;need 1 1 4;");
        EDGE.due("the later temper", x.temper(0, 0), 2);
        EDGE.due("the later friend", x.friendOf(0, 0), 2);
        x.clear();
        EDGE.due("woods and needs as they come", x.digest(), Check.digest(3, 2, 2, 0, 0,
            0, 0, 0, 0, 0, 0, 0, 0, 1, 1, 0, 0, 0, 0, 0, 2, 2, 0, 0, 0, 0, 0, 1, 1, 2, 0, 0, 2, 1, 1, 4));
    }
}
