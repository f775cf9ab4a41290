/** Promises 1 to 3: a new object, feed, autumn. */
final class TapeEdges {
    private static final String[] KINDS = {"leaf", "red", "yellow", "scarlet", "gold", "evergreen"};

    static void play(Edges e) {
        newObject(e);
        feed(e);
        tape(e);
        autumn(e);
        alone(e);
        leaves(e);
        laws(e);
        words(e);
        faults(e);
        faultsOfNumbers(e);
        faultsAtTheEnd(e);
        ninth(e);
    }

    private static void newObject(Edges e) {
        e.edge(1, "No LEAVES; nothing is kept.", """
            many(0) = 0  many(1) = 0  many(2) = 0  many(3) = 0  of(0, 0) ! -1  state(1) = 0  state(2) = 0
            leaf(0, 0, 10, 0) = 0  many(0) = 1  of(0, 0) = 0  of(1, 0) ! -1
            """, """
            again() ! -3  keep() = 1  again() = 0
            """, """
            many(4) = 0  many(5) = 0  many(6) = 0  state(3) = 0  state(4) = 0  state(5) = 6
            """);
        e.edge(1, "DAY (0 at first).", "state(0) = 0  days(1) = 0  state(0) = 1");
    }

    private static String feeds(int eights) {
        StringBuilder feeds = new StringBuilder();
        for (int i = 1; i <= eights; i++) {
            feeds.append("feed(2314885530818453536, 8) = ").append(8 * i).append(' ');
        }
        return feeds.toString();
    }

    private static void feed(Edges e) {
        e.edge(2, "n bytes (1 to 8) come to THE TAPE", """
            feed(0, 1) = 1  feed(0, 8) = 9  many(5) = 9
            feed(0, 0) ! -1  feed(0, 9) ! -1  feed(0, -1) ! -1  feed(0, MAX) ! -1  feed(0, MIN) ! -1
            feed(0, 2) = 11  feed(0, 7) = 18
            """, "feed(0, 9) ! -1", "feed(0, 0) ! -1  many(5) = 0");
        // "wind 5;!": of eight only n, the lowest first; the highest bits are bytes like others
        long eight = Step.eight("wind 5;!");
        long high = Step.eight("wind 7;\u00ff");
        e.edge(2, "the lowest of eight first",
            "feed(" + eight + ", 7) = 7  autumn() = 0  lawOf(0) = 5",
            "feed(" + eight + ", 6) = 6  autumn() = -106",
            "feed(" + eight + ", 8) = 8  autumn() = -107",
            "feed(" + high + ", 7) = 7  autumn() = 0  lawOf(0) = 7",
            "feed(" + high + ", 8) = 8  autumn() = -107",
            "feed(" + Step.eight("  wet 3;") + ", 8) = 8  autumn() = 0  lawOf(2) = 3");
        e.edge(2, "how many it has. BAD; FULL: more than 200.",
            feeds(25) + "many(5) = 200  feed(0, 1) ! -2  feed(0, 8) ! -2  many(5) = 200",
            feeds(24) + "feed(0, 7) = 199  feed(0, 2) ! -2  feed(0, 8) ! -2  feed(32, 1) = 200  feed(0, 1) ! -2",
            "feed(32, 1) = 1 " + "feed(32, 1) = 2  feed(32, 5) = 7  feed(32, 8) = 15",
            feeds(24) + "feed(0, 1) = 193  feed(0, 8) ! -2  feed(0, 7) = 200");
        e.edge(2, "of several the first named: BAD (-1) there is no such thing, or a number is not as told; FULL (-2)",
            feeds(25) + "feed(0, 0) ! -1  feed(0, 9) ! -1  feed(0, 8) ! -2");
    }

    private static void tape(Edges e) {
        e.edge(3, "THE TAPE takes bytes, 200 at most; autumn() uses it up.",
            feeds(25) + "autumn() = 0  many(5) = 0  feed(0, 8) = 8",
            feeds(24) + "feed(0, 8) = 200  autumn() = -292  many(5) = 0  feed(32, 1) = 1  autumn() = 0",
            // what is fed behind a fault stands at place 0 again, and a shorter text doesn't see a longer one's end
            "\"leaf on 9; leaf on 1;\" ! -108  \"red on 2\" ! -108  \"red on 2;\" = 1  of(0, 0) = 1");
        // a faulty text: the tape is used up, and all else stays as it is
        e.edge(3, "Answers below 0, where not told otherwise, are refusals; such a call changes nothing (but that THE TAPE is used up by autumn())", """
            leaf(3, 1, 30, 2) = 0  leaf(4, 2, 40, 3) = 1  set(0, 3) = 2  sway(1, 4) = 1  days(2) = 1  seed(9) = 1  keep() = 1
            day() = 1  pluck(1) = 0  prove(0, 3) = 3  sheet(1, 2, 3) = 1  put(1, 2, 77) = 1  shelf(0, 0, 0) = 1  shelf(1, 1, 1) = 1
            act(0, 1, 5) = 17  many(6) = 4
            "red on 2; wind 9; sway 0 is 9; gale 5" ! -137
            "x" ! -100
            many(5) = 0  many(4) = 3
            """);
    }

    private static void autumn(Edges e) {
        e.edge(3, "THE TAPE becomes all: how many LEAVES; -100 less its FAULT.",
            "autumn() = 0  many(0) = 0",
            "\"\" = 0  \"   \" = 0  \"leaf on 1;\" = 1  many(0) = 1  \"leaf on 1;red on 2;\" = 2  many(0) = 2",
            "\"" + "leaf on 1;".repeat(8) + "\" = 8  many(0) = 8",
            "\"x\" ! -100  \" x\" ! -101  \"" + " ".repeat(199) + "1\" ! -299  \"" + " ".repeat(196) + "leaf\" ! -300");
        e.edge(3, "There are no ROWS then.",
            "leaf(0, 0, 50, 0) = 0  prove(0, 10) = 10  \"leaf on 1;\" = 1  many(4) = 0  row(0, 0) = -9  judge(0) = 0",
            "leaf(0, 0, 50, 0) = 0  prove(0, 1) = 1  autumn() = 0  many(4) = 0  row(0, 0) = -9",
            "leaf(0, 0, 50, 0) = 0  prove(0, 2) = 2  \"x\" ! -100  many(4) = 2  row(1, 0) = 42");
    }

    private static void alone(Edges e) {
        String before = """
            leaf(3, 2, 50, 7) = 0  leaf(1, 3, 1, 8) = 1  leaf(1, 3, 0, 8) = 2  set(0, 7) = 2  set(1, 7) = 1  set(2, 7) = 1  set(3, 7) = 20
            sway(0, 9) = 1  sway(5, 9) = 1  days(3) = 0  seed(66) = 1  keep() = 1  prove(0, 4) = 4  seed(77) = 66
            """;
        e.edge(3, "It is all by it alone (what it doesn't tell is as at first); z stays.", before + """
            "yellow on 5;" = 1  of(0, 0) = 2  of(0, 1) = 5  of(0, 2) = 10  of(0, 3) = 0  of(0, 4) = 1  of(0, 5) = 0  of(1, 0) = -1
            many(0) = 1  many(1) = 1  many(2) = 0  state(0) = 0  lawOf(0) = 2  lawOf(1) = 1  lawOf(2) = 1  lawOf(3) = 20
            bough(0, 0) = 1  bough(5, 0) = 1  state(5) = 6  written(0) = -3  state(4) = 0  seed(1) = 77
            """, before + """
            autumn() = 0  many(0) = 0  many(2) = 0  state(0) = 0  lawOf(0) = 2  lawOf(1) = 1  lawOf(2) = 1  lawOf(3) = 20  state(5) = 6
            seed(1) = 77
            """, before + """
            "wind 3;" = 0  lawOf(0) = 3  lawOf(1) = 1  again() = 3  state(0) = 3  seed(1) = 66
            """, before + """
            sheet(1, 2, 3) = 1  put(1, 0, 12) = 1  shelf(0, 0, 0) = 1  shelf(1, 1, 1) = 1  shelf(2, 0, 1) = 1  act(0, 0, 1) = 9
            "yellow on 5;" = 1  item(1, 2, 0) = 12  taken(0, 2) = 0  taken(1, 12) = 3  taken(2, 0) = -11  many(6) = 2
            """);
    }

    private static void leaves(Edges e) {
        String kinds = "KIND (leaf | red | yellow | scarlet | gold | evergreen): one more ON a BOUGH, that HANGS";
        for (int kind = 0; kind < 6; kind++) {
            String name = KINDS[kind];
            int faultBehind = 100 + name.length();
            e.edge(3, kinds,
                "\"" + name + " on 3;\" = 1  of(0, 0) = " + kind + "  of(0, 1) = 3  of(0, 4) = 1  of(0, 5) = 0  bough(3, 1) = 1",
                "\"" + name + "s on 3;\" ! -100  \"" + name.substring(1) + " on 3;\" ! -100  \"" + name.toUpperCase() + " on 3;\" ! -100",
                "\"" + name.substring(0, name.length() - 1) + " on 3;\" ! -100  \"" + name.substring(0, name.length() - 1) + "z on 3;\" ! -100",
                "\"" + name + "\" ! -" + faultBehind + "  \"" + name + "!\" ! -" + faultBehind);
        }
        e.edge(3, "TEXT: { KIND on N [ hold N ] [ sign N ] ;",
            "\"leaf on 0 hold 7 sign 3;red on 5 hold 8;gold on 1 sign 4;yellow on 2;\" = 4  of(0, 2) = 7  of(0, 3) = 3  of(1, 2) = 8"
                + "  of(1, 3) = 0  of(2, 2) = 10  of(2, 3) = 4  of(3, 1) = 2  of(0, 1) = 0  of(1, 1) = 5  of(2, 1) = 1",
            "\"leaf on 1 sign 5 hold 6;\" ! -117  \"leaf on 1 hold 5 hold 6;\" ! -117  \"leaf on 1 sign 5 sign 6;\" ! -117",
            "\"leaf at 1;\" ! -105  \"leaf 1;\" ! -105  \"leaf ;\" ! -105  \"leaf on ;\" ! -108  \"leaf on on\" ! -108  \"leaf on 1 2;\" ! -110",
            "\"leaf on 1 hold;\" ! -114  \"leaf on 1 hold x;\" ! -115  \"leaf on 1 sign;\" ! -114  \"leaf on 1 sign x;\" ! -115",
            "\"leaf on 1 hold 5 sign 6 red on 2;\" ! -124  \"leaf on 1, red on 2;\" ! -109  \"leaf on 1;;\" ! -110  \"leaf on 1; x\" ! -111",
            "\"leaf on 1 is 2;\" ! -110  \"leaf on 1 holds 5;\" ! -110  \"leaf on 1 hol 5;\" ! -110  \"leaf on 1 signs 5;\" ! -110",
            "\"leaf onn 1;\" ! -105  \"leaf o 1;\" ! -105  \"on 1;\" ! -100  \"hold 1;\" ! -100  \"sign 1;\" ! -100  \"is 1;\" ! -100  \";\" ! -100");
        e.edge(3, "HOLD (10 without), SIGN (0 without).",
            "\"leaf on 1;\" = 1  of(0, 2) = 10  of(0, 3) = 0",
            "\"leaf on 1 hold 0;\" = 1  of(0, 2) = 0  of(0, 3) = 0",
            "\"leaf on 1 hold 9 sign 1;\" = 1  of(0, 2) = 9  of(0, 3) = 1",
            "\"leaf on 1 hold 11 sign 0;leaf on 1 sign 9;\" = 2  of(0, 2) = 11  of(1, 2) = 10  of(1, 3) = 9");
    }

    private static void laws(Edges e) {
        e.edge(3, "| sway N is N ; |",
            "\"sway 0 is 9;sway 5 is 0;\" = 0  bough(0, 0) = 9  bough(5, 0) = 0  bough(1, 0) = 1  state(5) = 13",
            "\"sway x is 1;\" ! -105  \"sway 1 1;\" ! -107  \"sway 1 on 1;\" ! -107  \"sway 1 is x;\" ! -110  \"sway 1 is 1 is\" ! -112",
            "\"sway is 1;\" ! -105  \"sway 1 iss 1;\" ! -107  \"sways 1 is 1;\" ! -100  \"swa 1 is 1;\" ! -100");
        e.edge(3, "sway: of a BOUGH. The others: the LAW.",
            "\"sway 2 is 7;sway 2 is 8;\" = 0  bough(2, 0) = 8  lawOf(0) = 2",
            "\"wind 5;wind 6;\" = 0  lawOf(0) = 6  bough(0, 0) = 1");
        String[] names = {"wind", "cold", "wet", "gale"};
        int[] first = {2, 1, 1, 20};
        for (int law = 0; law < 4; law++) {
            String name = names[law];
            int behind = 100 + name.length();
            int other = (law + 1) % 4;
            e.edge(3, "wind N ; | cold N ; | wet N ; | gale N ; }",
                "\"" + name + " 7;\" = 0  lawOf(" + law + ") = 7  lawOf(" + other + ") = " + first[other],
                "\"" + name + "s 7;\" ! -100  \"" + name.substring(1) + " 7;\" ! -100  \"" + name.substring(0, name.length() - 1) + " 7;\" ! -100",
                "\"" + name + " x;\" ! -" + (behind + 1) + "  \"" + name + " ;\" ! -" + (behind + 1) + "  \"" + name + " is 7;\" ! -" + (behind + 1),
                "\"" + name + " 1 2;\" ! -" + (behind + 3) + "  \"" + name + " 1:\" ! -" + (behind + 2) + "  \"" + name + " " + name + "\" ! -" + (behind + 1));
        }
    }

    private static void words(Edges e) {
        // the signs beside a and z, 0 and 9 are no letters and no digits
        e.edge(3, "NAMES are rows of letters a to z",
            "\"leaf` on 1;\" ! -104  \"leaf{ on 1;\" ! -104  \"leafa on 1;\" ! -100  \"leafz on 1;\" ! -100  \"leafA on 1;\" ! -104",
            "\"Leaf on 1;\" ! -100  \"lEaf on 1;\" ! -100  \"leaf on a;\" ! -108  \"leaf on z;\" ! -108  \"`\" ! -100  \"{\" ! -100");
        e.edge(3, "NUMBERS rows of digits (1 to 3)",
            "\"leaf on 5;leaf on 05;leaf on 005;\" = 3  of(0, 1) = 5  of(1, 1) = 5  of(2, 1) = 5  \"leaf on 0005;\" ! -108",
            "\"leaf on /;\" ! -108  \"leaf on :;\" ! -108  \"leaf on 1/;\" ! -109  \"leaf on 1:;\" ! -109  \"leaf on -1;\" ! -108",
            "\"leaf on 1 hold 9;leaf on 1 hold 09;leaf on 1 hold 099;\" = 3  of(1, 2) = 9  of(2, 2) = 99  \"leaf on 1 hold 0099;\" ! -115",
            "\"leaf on 1 hold 90;\" = 1  of(0, 2) = 90  \"leaf on 1 hold 0000\" ! -115  \"leaf on 1 sign 0000;\" ! -115",
            "\"leaf on 1 sign 009;\" = 1  of(0, 3) = 9  \"leaf on 1 sign 0009;\" ! -115",
            "\"sway 005 is 009;wind 009;cold 009;wet 009;gale 099;\" = 0  bough(5, 0) = 9  lawOf(0) = 9  lawOf(3) = 99",
            "\"sway 0005 is 1;\" ! -105  \"sway 5 is 0009;\" ! -110  \"wind 0009;\" ! -105  \"cold 0009;\" ! -105  \"wet 0009;\" ! -104  \"gale 0099;\" ! -105");
        e.edge(3, "both as long as they go",
            "\"leafon 1;\" ! -100  \"leaf on 12;\" ! -108  \"wind 55;\" ! -105  \"gale 100;\" ! -105  \"leaf on 1 holdsign 3;\" ! -110",
            "\"leaf on1hold7sign3;red on 2;\" = 2  of(0, 1) = 1  of(0, 2) = 7  of(0, 3) = 3",
            "\"wind5;\" = 0  lawOf(0) = 5  \"sway1is2;\" = 0  bough(1, 0) = 2",
            "\"" + "a".repeat(200) + "\" ! -100  \"wind " + "1".repeat(195) + "\" ! -105");
        e.edge(3, "blanks (32) part them, and stand elsewhere as one likes.",
            "\"  leaf   on  1  hold  2  sign  3  ;  \" = 1  of(0, 2) = 2  of(0, 3) = 3",
            "\"leaf\\x20on 1;\" = 1  \"leaf\\x1fon 1;\" ! -104  \"leaf\\x21on 1;\" ! -104  \"leaf\\x09on 1;\" ! -104  \"leaf on 1;\\x0a\" ! -110",
            "\"leaf on 1\\x0d;\" ! -109  \"leaf\\xa0on 1;\" ! -104  \"leaf\\x00on 1;\" ! -104  \"\\xff\" ! -100  \"\\x80\" ! -100",
            "\"le af on 1;\" ! -100  \"leaf o n 1;\" ! -105  \"gale 9 9;\" ! -107  \"wind 5 ;cold 6  ;\" = 0  lawOf(0) = 5  lawOf(1) = 6",
            "\"" + " ".repeat(200) + "\" = 0  \"" + " ".repeat(193) + "wind 9;\" = 0  lawOf(0) = 9",
            "\"leaf on 1" + " ".repeat(190) + ";\" = 1");
    }

    private static void faults(Edges e) {
        e.edge(3, "FAULT: the place (from 0) of the first byte of the first NAME, NUMBER or other byte that can't stand there or is not as told",
            "\"x\" ! -100  \"xyz\" ! -100  \" xyz\" ! -101  \"5\" ! -100  \" 55\" ! -101  \";\" ! -100  \"  ;\" ! -102",
            // the first of two faults, and a place far behind
            "\"leaf on 9 hold 100;\" ! -108  \"wind 10 x\" ! -105  \"leaf no 9;\" ! -105  \"wind 1;cold 1;wet 1;gale 1;rain 1;\" ! -127",
            "\"" + ";".repeat(200) + "\" ! -100  \"" + " ".repeat(197) + "lea\" ! -297  \"" + " ".repeat(199) + ";\" ! -299",
            "\"leaf on 1;leaf on 2;leaf on 3;leaf on 4;leaf on 5;leaf on 6;\" ! -158",
            // where a number is wanted, what would go on behind it is read no more
            "\"leaf on hold x;\" ! -108  \"leaf on sign x;\" ! -108  \"leaf on hold 100;\" ! -108  \"leaf on 6 hold x;\" ! -108  \"leaf on 1 hold sign x;\" ! -115",
            "\"leaf on 1 hold 100 sign 10;\" ! -115  \"sway is is x;\" ! -105  \"sway 6 is x;\" ! -105  \"sway 1 is ; x\" ! -110  \"wind ; x\" ! -105  \"wind x; x\" ! -105",
            "\"leaf on 9;wind x;\" ! -108  \"wind 10;leaf on 9;\" ! -105  \"sway 1 is 10;leaf on 9;\" ! -110");
    }

    private static void faultsOfNumbers(Edges e) {
        String range = "(a NUMBER out of range, of more digits; the NAME of a ninth one)";
        String[] texts = {"leaf on N;", "leaf on 1 hold N;", "leaf on 1 sign N;", "sway N is 1;", "sway 1 is N;", "wind N;", "cold N;", "wet N;", "gale N;"};
        int[] most = {5, 99, 9, 5, 9, 9, 9, 9, 99};
        for (int i = 0; i < texts.length; i++) {
            String text = texts[i];
            int leaves = i < 3 ? 1 : 0;
            int fault = -100 - text.indexOf('N');
            StringBuilder script = new StringBuilder();
            for (String in : new String[] {"0", "" + most[i], "000"}) {
                script.append('"').append(text.replace("N", in)).append("\" = ").append(leaves).append("  ");
            }
            for (String out : new String[] {"" + (most[i] + 1), "999", "000" + most[i], "4294967296", "999999999999999999"}) {
                script.append('"').append(text.replace("N", out)).append("\" ! ").append(fault).append("  ");
            }
            e.edge(3, range, script.toString());
        }
    }

    private static void faultsAtTheEnd(Edges e) {
        String end = "or the end (how many bytes there are), if more must come.";
        e.edge(3, end,
            "\"leaf\" ! -104  \"leaf  \" ! -106  \"leaf on\" ! -107  \"leaf on \" ! -108  \"leaf on 1\" ! -109  \"leaf on 1 \" ! -110  \"leaf on 1;\" = 1",
            "\"leaf on 1 hold\" ! -114  \"leaf on 1 hold 5\" ! -116  \"leaf on 1 hold 5 sign\" ! -121  \"leaf on 1 hold 5 sign 3\" ! -123",
            "\"leaf on 1 sign\" ! -114  \"leaf on 1 sign 3 \" ! -117  \"leaf on 1;red\" ! -113  \"leaf on 1;red \" ! -114",
            "\"sway\" ! -104  \"sway 1\" ! -106  \"sway 1 is\" ! -109  \"sway 1 is 1\" ! -111  \"sway 1 is 1;\" = 0",
            "\"wind\" ! -104  \"cold \" ! -105  \"wet 5\" ! -105  \"gale 5 \" ! -107  \"gale 5;\" = 0");
        // the tape's last byte, and one ahead of it
        e.edge(3, end,
            "\"" + " ".repeat(196) + "leaf\" ! -300  \"" + " ".repeat(195) + "leaf\" ! -299  \"" + " ".repeat(195) + "wet 9\" ! -300",
            "\"leaf on 1" + " ".repeat(191) + "\" ! -300  \"" + " ".repeat(194) + "wet 99\" ! -298",
            "\"" + " ".repeat(194) + "wet 9;\" = 0  \"" + " ".repeat(193) + "leaf on\" ! -300");
    }

    private static void ninth(Edges e) {
        String eight = "red on 1;".repeat(8);
        e.edge(3, "the NAME of a ninth one",
            "\"" + eight + "\" = 8  \"" + eight + "leaf on 1;\" ! -172  \"" + eight + "leaf\" ! -172  \"" + eight + " leaf at 9\" ! -173",
            "\"" + eight + "wind 4; sway 1 is 2;\" = 8  lawOf(0) = 4  \"" + eight + "wind 4; sway 1 is 2; gold on 3;\" ! -193",
            "\"" + "red on 1;".repeat(7) + "gold on 2;\" = 8  of(7, 0) = 4  \"" + eight + "evergreen on 1;\" ! -172  \"" + eight + "x\" ! -172");
    }
}
