/** Promises 1 to 3: a new object, feed, autumn. */
public final class TapeTest {
    private static final Due DUE = new Due("TapeTest");

    public static void main(String[] args) {
        newObject();
        feed();
        autumnAsTold();
        autumnByItAlone();
        faults();
        faultsOfNumbers();
        faultsAtTheEnd();
        faultsChangeNothing();
        ninth();
        DUE.close();
    }

    private static void newObject() {
        DUE.promise(1, "a new object");
        LeafFalls x = new LeafFalls();
        for (int what = 0; what < 7; what++) {
            DUE.due("many(" + what + ")", x.many(what), 0);
        }
        int[] laws = {2, 1, 1, 20};
        for (int law = 0; law < 4; law++) {
            DUE.due("lawOf(" + law + ")", x.lawOf(law), laws[law]);
        }
        for (int bough = 0; bough < 6; bough++) {
            DUE.due("bough(" + bough + ", 0)", x.bough(bough, 0), 1);
            DUE.due("bough(" + bough + ", 1)", x.bough(bough, 1), 0);
        }
        int[] state = {0, 0, 0, 0, 0, 6};
        for (int what = 0; what < 6; what++) {
            DUE.due("state(" + what + ")", x.state(what), state[what]);
        }
        for (int i = 0; i < 4; i++) {
            DUE.due("item(" + i + ", 0, 0)", x.item(i, 0, 0), -11);
            DUE.due("taken(" + i + ", 0)", x.taken(i, 0), -11);
        }
        DUE.due("seed(1)", x.seed(1), 1);
        DUE.due("again()", x.again(), -3);
        DUE.due("trace(0)", x.trace(0), -3);
        DUE.due("row(0, 0)", x.row(0, 0), -9);
        DUE.due("of(0, 0)", x.of(0, 0), -1);
        DUE.due("BAD", LeafFalls.BAD, -1);
        DUE.due("FULL", LeafFalls.FULL, -2);
        DUE.due("NONE", LeafFalls.NONE, -3);
    }

    private static void feed() {
        DUE.promise(2, "feed");
        LeafFalls x = new LeafFalls();
        DUE.keeps("feed(1, 0)", x, () -> x.feed(1, 0), -1);
        DUE.keeps("feed(1, 9)", x, () -> x.feed(1, 9), -1);
        DUE.keeps("feed(1, -1)", x, () -> x.feed(1, -1), -1);
        DUE.due("feed(.., 1)", x.feed(-1L, 1), 1);
        for (int i = 1; i <= 24; i++) {
            DUE.due("feed(.., 8)", x.feed(-1L, 8), 1 + 8 * i);
        }
        DUE.due("many(5)", x.many(5), 193);
        DUE.keeps("feed(.., 8) of 7 left", x, () -> x.feed(0, 8), -2);
        DUE.due("feed(.., 6)", x.feed(0, 6), 199);
        DUE.keeps("feed(.., 2) of 1 left", x, () -> x.feed(0, 2), -2);
        DUE.due("feed(.., 1)", x.feed(0, 1), 200);
        DUE.keeps("feed(.., 1) of none left", x, () -> x.feed(0, 1), -2);
        DUE.keeps("feed(.., 9) of none left", x, () -> x.feed(0, 9), -1);
        DUE.keeps("feed(.., max)", x, () -> x.feed(0, Integer.MAX_VALUE), -1);
        DUE.keeps("feed(.., min)", x, () -> x.feed(0, Integer.MIN_VALUE), -1);

        // the lowest byte first, and of eight only n: "wind 5;" and then a byte that is no part of it
        LeafFalls y = new LeafFalls();
        long eight = 0;
        String text = "wind 5;!";
        for (int i = 0; i < 8; i++) {
            eight |= (long) text.charAt(i) << (8 * i);
        }
        DUE.due("feed(.., 7)", y.feed(eight, 7), 7);
        DUE.due("autumn()", y.autumn(), 0);
        DUE.due("lawOf(0)", y.lawOf(0), 5);
    }

    private static void answers(String text, int want) {
        LeafFalls x = new LeafFalls();
        Due.feed(x, text);
        DUE.due("autumn() of \"" + text + "\"", x::autumn, want);
        DUE.due("many(5) behind \"" + text + "\"", x.many(5), 0);
    }

    private static void leafIs(LeafFalls x, int leaf, int kind, int bough, int hold, int sign) {
        DUE.due("of(" + leaf + ", 0)", x.of(leaf, 0), kind);
        DUE.due("of(" + leaf + ", 1)", x.of(leaf, 1), bough);
        DUE.due("of(" + leaf + ", 2)", x.of(leaf, 2), hold);
        DUE.due("of(" + leaf + ", 3)", x.of(leaf, 3), sign);
        DUE.due("of(" + leaf + ", 4)", x.of(leaf, 4), 1);
        DUE.due("of(" + leaf + ", 5)", x.of(leaf, 5), 0);
    }

    private static void autumnAsTold() {
        DUE.promise(3, "autumn");
        answers("", 0);
        answers("   ", 0);
        answers("leaf on 1;", 1);
        answers("  leaf   on  1  ;  ", 1);
        answers("leaf on 1 hold 99 sign 9;gale 99;", 1);
        answers("leaf on1hold7sign3;red on 2;", 2);
        answers("leaf on 001 hold 010 sign 009;", 1);
        answers("wind 9;cold 9;wet 9;gale 99;sway 5 is 9;", 0);

        LeafFalls x = Due.told("leaf on 0; red on 1 hold 0; yellow on 2 sign 9; scarlet on 3 hold 99 sign 0;");
        DUE.due("many(0)", x.many(0), 4);
        leafIs(x, 0, 0, 0, 10, 0);
        leafIs(x, 1, 1, 1, 0, 0);
        leafIs(x, 2, 2, 2, 10, 9);
        leafIs(x, 3, 3, 3, 99, 0);

        LeafFalls y = Due.told("gold on 5 hold 7 sign 5;evergreen on 4 hold 3;wind 0;cold 3;wet 4;gale 55;sway 2 is 7;sway 2 is 8;sway 0 is 0;");
        leafIs(y, 0, 4, 5, 7, 5);
        leafIs(y, 1, 5, 4, 3, 0);
        DUE.due("lawOf(0)", y.lawOf(0), 0);
        DUE.due("lawOf(1)", y.lawOf(1), 3);
        DUE.due("lawOf(2)", y.lawOf(2), 4);
        DUE.due("lawOf(3)", y.lawOf(3), 55);
        DUE.due("bough(0, 0)", y.bough(0, 0), 0);
        DUE.due("bough(1, 0)", y.bough(1, 0), 1);
        DUE.due("bough(2, 0)", y.bough(2, 0), 8);
        DUE.due("state(1)", y.state(1), 3);
    }

    private static void autumnByItAlone() {
        DUE.promise(3, "autumn");
        LeafFalls x = new LeafFalls();
        x.leaf(3, 2, 50, 7);
        x.leaf(1, 3, 1, 8);
        x.leaf(1, 3, 0, 8);
        x.set(0, 7);
        x.set(1, 7);
        x.set(2, 7);
        x.set(3, 7);
        x.sway(4, 9);
        x.days(3);
        x.seed(66);
        x.keep();
        x.prove(0, 4);
        x.seed(77);
        x.sheet(1, 2, 3);
        x.put(1, 0, 12);
        x.shelf(0, 0, 0);
        x.shelf(1, 1, 1);
        x.shelf(2, 0, 1);
        x.act(0, 0, 1);
        Due.feed(x, "yellow on 5;");
        DUE.due("autumn()", x.autumn(), 1);
        leafIs(x, 0, 2, 5, 10, 0);
        DUE.due("many(0)", x.many(0), 1);
        DUE.due("many(2)", x.many(2), 0);
        DUE.due("state(0)", x.state(0), 0);
        DUE.due("lawOf(0)", x.lawOf(0), 2);
        DUE.due("lawOf(1)", x.lawOf(1), 1);
        DUE.due("lawOf(2)", x.lawOf(2), 1);
        DUE.due("lawOf(3)", x.lawOf(3), 20);
        DUE.due("bough(4, 0)", x.bough(4, 0), 1);
        DUE.due("written(0)", x.written(0), -3);
        DUE.due("many(4)", x.many(4), 0);
        DUE.due("row(0, 0)", x.row(0, 0), -9);
        DUE.due("many(5)", x.many(5), 0);
        DUE.due("seed(77)", x.seed(77), 77);
        // sheets, shelves and the trace are no part of the autumn
        DUE.due("item(1, 2, 0)", x.item(1, 2, 0), 12);
        DUE.due("taken(0, 2)", x.taken(0, 2), 0);
        DUE.due("taken(1, 12)", x.taken(1, 12), 3);
        DUE.due("taken(2, 0)", x.taken(2, 0), -11);
        DUE.due("many(6)", x.many(6), 2);
        DUE.due("again()", x.again(), 3);
        DUE.due("state(0)", x.state(0), 3);
        // the empty tape tells nothing: all is as at first
        DUE.due("autumn()", x.autumn(), 0);
        DUE.due("many(0)", x.many(0), 0);
        DUE.due("lawOf(0)", x.lawOf(0), 2);
        DUE.due("state(0)", x.state(0), 0);
    }

    private static void faults() {
        DUE.promise(3, "autumn");
        answers("x", -100);
        answers(" ;", -101);
        answers("5", -100);
        answers("leafs on 1;", -100);
        answers("leafon 1;", -100);
        answers("leafz on 1;", -100);
        answers("leafa on 1;", -100);
        answers("leaf{ on 1;", -104);
        answers("leaf` on 1;", -104);
        answers("leaf on 1:", -109);
        answers("leaf on 1/", -109);
        answers("lea", -100);
        answers("Leaf on 1;", -100);
        answers("lEaf on 1;", -100);
        answers("on 1;", -100);
        answers("hold 1;", -100);
        answers("sign 1;", -100);
        answers("is 1;", -100);
        answers("leaf at 1;", -105);
        answers("leaf 1;", -105);
        answers("leaf ;", -105);
        answers("leaf\ton 1;", -104);
        answers("leaf on x;", -108);
        answers("leaf on ;", -108);
        answers("leaf on -1;", -108);
        answers("leaf on 1 2;", -110);
        answers("leaf on 1 hold;", -114);
        answers("leaf on 1 hold x;", -115);
        answers("leaf on 1 hold 5 hold 6;", -117);
        answers("leaf on 1 sign;", -114);
        answers("leaf on 1 sign 5 hold 6;", -117);
        answers("leaf on 1 sign 5 sign 6;", -117);
        answers("leaf on 1 hold 5 sign 6 red on 2;", -124);
        answers("leaf on 1, red on 2;", -109);
        answers("leaf on 1;;", -110);
        answers("leaf on 1; x", -111);
        answers("sway x is 1;", -105);
        answers("sway 1 1;", -107);
        answers("sway 1 on 1;", -107);
        answers("sway 1 is x;", -110);
        answers("sway 1 is 1 is", -112);
        answers("wind x;", -105);
        answers("wind ;", -105);
        answers("wind 1 2;", -107);
        answers("wind 1:", -106);
        answers("cold is 1;", -105);
        answers("wet wet;", -104);
        answers("gale 1 sign 1;", -107);
        answers("wind 1;cold 1;wet 1;gale 1;rain 1;", -127);
        answers("leaf on 1;\n", -110);
        answers("\u00ff", -100);
        answers("\u0080", -100);
        answers("leaf\u0000", -104);
        answers("wind 5;" + (char) 0, -107);
    }

    private static void faultsOfNumbers() {
        DUE.promise(3, "autumn");
        answers("leaf on 6;", -108);
        answers("leaf on 5;", 1);
        answers("leaf on 0005;", -108);
        answers("leaf on 999999999999999999;", -108);
        answers("leaf on 1 hold 100;", -115);
        answers("leaf on 1 hold 099;", 1);
        answers("leaf on 1 hold 0099;", -115);
        answers("leaf on 1 sign 10;", -115);
        answers("leaf on 1 sign 010;", -115);
        answers("leaf on 1 sign 9;", 1);
        answers("sway 6 is 1;", -105);
        answers("sway 5 is 10;", -110);
        answers("wind 10;", -105);
        answers("wind 009;", 0);
        answers("wind 0009;", -105);
        answers("cold 10;", -105);
        answers("wet 10;", -104);
        answers("gale 100;", -105);
        answers("gale 99;", 0);
        answers("gale 4294967296;", -105);
        // a number is blamed before the fault behind it
        answers("wind 10 x", -105);
    }

    private static void faultsAtTheEnd() {
        DUE.promise(3, "autumn");
        answers("leaf", -104);
        answers("leaf  ", -106);
        answers("leaf on", -107);
        answers("leaf on ", -108);
        answers("leaf on 1", -109);
        answers("leaf on 1 ", -110);
        answers("leaf on 1 hold", -114);
        answers("leaf on 1 hold 5", -116);
        answers("leaf on 1 hold 5 sign", -121);
        answers("leaf on 1 hold 5 sign 3", -123);
        answers("sway", -104);
        answers("sway 1", -106);
        answers("sway 1 is", -109);
        answers("sway 1 is 1", -111);
        answers("wind", -104);
        answers("gale 5 ", -107);
        answers("leaf on 1;red", -113);
        String full = "leaf on 1" + " ".repeat(191);
        answers(full, -300);
        answers("leaf on 1" + " ".repeat(190) + ";", 1);
        answers(" ".repeat(196) + "leaf", -300);
        answers(" ".repeat(193) + "leaf on", -300);
        answers(" ".repeat(197) + "lea", -297);
        answers(" ".repeat(193) + "wind 9;", 0);
        answers(" ".repeat(195) + "wet 9", -300);
        answers(" ".repeat(200), 0);
        answers("a".repeat(200), -100);
        answers("wind " + "1".repeat(195), -105);
        answers(";".repeat(200), -100);
        answers(" ".repeat(199) + "1", -299);
    }

    private static void faultsChangeNothing() {
        DUE.promise(3, "autumn");
        LeafFalls x = Due.told("leaf on 1 hold 30 sign 2; wind 3; sway 1 is 4;");
        x.days(2);
        x.prove(0, 5);
        x.seed(9);
        x.day();
        String before = Due.all(x);
        Due.feed(x, "red on 2; wind 9; sway 0 is 9; gale 5");
        DUE.due("autumn()", x.autumn(), -137);
        DUE.due("autumn() of a faulty text changes nothing", Due.all(x).equals(before) ? 1 : 0, 1);
        DUE.due("many(4)", x.many(4), 5);
        DUE.due("many(5)", x.many(5), 0);
        // the tape is used up: what is fed behind it stands at place 0 again
        Due.feed(x, "red on 2;");
        DUE.due("autumn()", x.autumn(), 1);
        DUE.due("of(0, 0)", x.of(0, 0), 1);
    }

    private static void ninth() {
        DUE.promise(3, "autumn");
        String eight = "red on 1;".repeat(8);
        answers(eight, 8);
        answers(eight + "leaf on 1;", -172);
        answers(eight + " leaf at 9", -173);
        answers(eight + "wind 4; sway 1 is 2; gold on 3;", -193);
        answers(eight + "wind 4; sway 1 is 2;", 8);
    }
}
