/** Promises 11 to 13: the text, and the tale that is read from it. */
public final class TaleTest {
    private static final Check CHECK = new Check();

    public static void main(String[] args) {
        type();
        clear();
        items();
        faults();
        refused();
        toldAnew();
        endsWhereItEnds();
        CHECK.end();
    }

    private static void type() {
        BlindBells x = new BlindBells();
        CHECK.due("type, n 0", x.type(1, 0), -2);
        CHECK.due("type, n 9", x.type(1, 9), -2);
        CHECK.due("type, n MIN", x.type(1, Integer.MIN_VALUE), -2);
        CHECK.due("type villages", x.type(0x76696C6C61676573L, 8), 8);
        CHECK.due("the lowest three, the highest of them first", x.type(0x7B7B7B20333BL, 3), 11);
        CHECK.due("so it reads", x.read(), 1);
        CHECK.due("so it is", x.count(0), 3);
        x.clear();
        for (int i = 1; i <= 31; i++) {
            CHECK.due("type 8, time " + i, x.type(-1L, 8), 8 * i);
        }
        CHECK.due("three more than 250 has", x.type(0, 3), -4);
        CHECK.due("n is BAD ahead of FULL", x.type(0, 9), -2);
        CHECK.due("two make it 250", x.type(0, 2), 250);
        CHECK.due("one more", x.type(0, 1), -4);
        CHECK.due("count(4)", x.count(4), 250);
        CHECK.status("type", x, 4, 0, 2);
    }

    private static void clear() {
        BlindBells x = new BlindBells();
        CHECK.due("clear()", x.clear(), 0);
        Check.type(x, "villages 2;");
        CHECK.due("clear()", x.clear(), 11);
        CHECK.due("count(4)", x.count(4), 0);
        CHECK.due("read()", x.read(), -10);
        Check.type(x, "v");
        CHECK.due("it begins anew", x.count(4), 1);
    }

    private static void items() {
        BlindBells x = new BlindBells();
        CHECK.due("villages alone", Check.read(x, "villages 6;"), 1);
        CHECK.due("count(0)", x.count(0), 6);
        CHECK.due("two figures are one number", Check.read(x, "villages 06;need 05 03 31;"), 2);
        CHECK.due("as told", x.digest(), Check.digest(6, 0, 1, 0, 26,
            0, 0, 0, 0, 0, 0, 0, 0, 1, 1, 0, 0, 0, 0, 0, 2, 2, 0, 0, 0, 0,
            0, 3, 3, 0, 0, 0, 0, 0, 4, 4, 0, 0, 0, 0, 0, 5, 5, 0, 0, 0, 0, 5, 3, 31));
        CHECK.due("each kind",
            Check.read(x, "villages 2;hears 0 3 1;wood 1 0;temper 1 4;friend 0 1;need 0 2 2;"), 6);
        CHECK.due("each told", x.digest(), Check.digest(2, 1, 1, 0, 65,
            0, 1, 0, 0, 0, 0, 2, 4, 1, 1, 0, 0, 0, 0, 1, 0, 0, 2, 2));
        CHECK.due("blanks", Check.read(x, "  villages   3  ;  wood 0   1 ; "), 2);
        CHECK.due("count(1)", x.count(1), 1);
        CHECK.due("tokens that part without blanks", Check.read(x, "villages3;wood0 1;need0 0 2;"), 3);
        CHECK.due("the text stays", x.count(4), 28);
        CHECK.due("and reads again", x.read(), 3);
        CHECK.due("250 bytes of items", Check.read(x, "villages6;" + "wood0 1;".repeat(8) + "temper1 1;".repeat(17)
            + "      "), 26);
        CHECK.due("250 bytes", x.count(4), 250);
        CHECK.status("items are no calls", x, 0, 0, 0);
    }

    private static void faults() {
        fault("", 0);
        fault("   ", 3);
        fault("villages", 8);
        fault("villages 3", 10);
        fault("villages 3; ", -1);
        fault("villages 3;hears", 16);
        fault("villages 3;hears 0 0 1", 22);
        fault("villages 3;hears 0 0 1  ", 24);
        fault("village 3;", 0);
        fault("villagess 3;", 0);
        fault("vill", 0);
        fault(" 3;", 1);
        fault(";", 0);
        fault("hears 0 0 1;villages 3;", 0);
        fault("villages ;", 9);
        fault("villages hears 0 0 1;", 9);
        fault("villages 3 4;", 11);
        fault("villages 3 hears 0 0 1;", 11);
        fault("villages 3;;", 11);
        fault("villages 3;villages 3;", 11);
        fault("villages 3;temper 0 1;villages 3;", 22);
        fault("villages 3;9", 11);
        fault("villages 3;house 1;", 11);
        fault("villages 3;hears 0 0;", 20);
        fault("villages 3;hears 0 0 1 2;", 23);
        fault("villages 3;wood 0 1 2;", 20);
        fault("villages 003;", 9);
        fault("villages 3;need 0 0 002;", 20);
        fault("villages 3;need 0 0 2 123;", 22);
        fault("Villages 3;", 0);
        fault("villages 3;Wood 0 1;", 11);
        fault("villages 3;woodS 0 1;", 15);
        fault("villages 3;woodz 0 1;", 11);
        fault("villages 3;awood 0 1;", 11);
        fault("villages -3;", 9);
        fault("villages 3,", 10);
        fault("villages\t3;", 8);
        fault("villages 3\u0000;", 10);
        fault("villages 3;\u00e9", 11);
        fault("villages 3;\u00ff", 11);
        fault("villages 3`;", 10);
        fault("villages 3{;", 10);
        fault("villages 3:;", 10);
        fault("villages 3/;", 10);
        fault("villages 3;wood9 0 1;", 19);
        // a fault behind an item that would be refused goes ahead of it
        fault("villages 9;x", 11);
        fault("villages 3;hears 0 0 0;need", 27);
    }

    private static void fault(String text, int place) {
        BlindBells x = new BlindBells();
        x.sign(1);
        x.need(0, 0, 2);
        Check.type(x, text);
        long before = x.digest();
        int answer = x.read();
        if (place < 0) {
            CHECK.due("no fault: " + text, answer > 0 ? 1 : 0, 1);
        } else {
            CHECK.due("fault: " + text, answer, -10 - place);
            CHECK.due("nothing changes: " + text, x.digest(), before);
        }
        CHECK.status(text, x, 0, 0, 0);
    }

    private static void refused() {
        refusedAt("villages 0;", 0);
        refusedAt("villages 1;", 0);
        refusedAt("villages 7;", 0);
        refusedAt("villages 99;", 0);
        refusedAt("villages 1;hears 0 0 0;", 0);
        refusedAt("villages 2;hears 0 0 0;", 1);
        refusedAt("villages 2;hears 0 0 2;", 1);
        refusedAt("villages 2;hears 0 4 1;", 1);
        refusedAt("villages 2;hears 0 0 1;hears 0 0 1;", 2);
        refusedAt("villages 2;wood 1 1;", 1);
        refusedAt("villages 2;wood 0 1;wood 2 1;", 2);
        refusedAt("villages 2;temper 0 6;", 1);
        refusedAt("villages 2;temper 2 0;", 1);
        refusedAt("villages 2;friend 0 2;", 1);
        refusedAt("villages 2;friend 0 0;friend 2 0;", 2);
        refusedAt("villages 2;need 0 0 1;", 1);
        refusedAt("villages 2;need 0 0 4;", 1);
        refusedAt("villages 2;need 0 4 2;", 1);
        refusedAt("villages 2;need 2 0 1;", 1);
        refusedAt("villages 2;" + "wood 0 1;".repeat(9), 9);
        refusedAt("villages 2;" + "need 0 0 2;".repeat(13), 13);
    }

    private static void refusedAt(String text, int item) {
        BlindBells x = new BlindBells();
        x.sign(1);
        x.need(0, 0, 2);
        Check.type(x, text);
        long before = x.digest();
        CHECK.due(text, x.read(), -1000 - item);
        CHECK.due("nothing changes: " + text, x.digest(), before);
        CHECK.status(text, x, 0, 0, 0);
        // nothing is left over from it
        CHECK.due("then a good one", Check.read(x, "villages 2;need 0 0 2;"), 2);
        CHECK.due("as told", x.digest(), Check.digest(2, 0, 1, 0, 22,
            0, 0, 0, 0, 0, 0, 0, 0, 1, 1, 0, 0, 0, 0, 0, 0, 2));
    }

    private static void toldAnew() {
        BlindBells x = new BlindBells();
        x.villages(2);
        x.hears(0, 0, 1, true);
        x.wood(0, 1);
        x.temper(1, 3);
        x.friendOf(1, 0);
        x.change(0, 1);
        x.need(1, 0, 1);
        x.sign(7);
        x.image(0);
        CHECK.due("read", Check.read(x, "villages 2;hears 0 0 1;"), 2);
        CHECK.due("by these alone", x.digest(), Check.digest(2, 0, 0, 0, 23,
            0, 0, 0, 2, 0, 0, 0, 0, 1, 1, 0, 0, 0, 0));
        CHECK.due("no wood shuts it", x.heard(0, 0), 2);
        CHECK.due("images stay", x.from(0), 1);
        CHECK.due("as it was", x.count(3), 1);
        CHECK.due("the text stays", x.count(4), 23);
    }

    /** What an earlier, longer text had behind the end is no part of a token. */
    private static void endsWhereItEnds() {
        BlindBells x = new BlindBells();
        Check.read(x, "villages");
        CHECK.due("a word cut short", Check.read(x, "village"), -10);
        Check.read(x, "villages 123");
        CHECK.due("a number cut short", Check.read(x, "villages 12"), -21);
        Check.read(x, "villages 3;");
        CHECK.due("its end cut off", Check.read(x, "villages 3"), -20);
    }
}
