/** Promises 4 to 14: laws, leaves and boughs. */
final class LeavesEdges {
    static void play(Edges e) {
        laws(e);
        leaf(e);
        of(e);
        mates(e);
        loses(e);
        rank(e);
        mind(e);
        hold(e);
        move(e);
        pluck(e);
        bough(e);
        sway(e);
    }

    private static void laws(Edges e) {
        String[] laws = {"LAWS: 0 WIND (0 to 9; 2 at first)", "1 COLD (0 to 9; 1)", "2 WET (0 to 9; 1)", "3 GALE (0 to 99 of a hundred; 20)."};
        int[] first = {2, 1, 1, 20};
        int[] most = {9, 9, 9, 99};
        for (int law = 0; law < 4; law++) {
            String l = "(" + law;
            e.edge(4, laws[law],
                "lawOf" + l + ") = " + first[law] + "  set" + l + ", " + most[law] + ") = " + first[law] + "  lawOf" + l + ") = " + most[law]
                    + "  set" + l + ", " + (most[law] + 1) + ") ! -1  set" + l + ", MAX) ! -1  lawOf" + l + ") = " + most[law],
                "set" + l + ", 0) = " + first[law] + "  lawOf" + l + ") = 0  set" + l + ", -1) ! -1  set" + l + ", MIN) ! -1  lawOf" + l + ") = 0",
                "set" + l + ", " + (most[law] - 1) + ") = " + first[law] + "  set" + l + ", 1) = " + (most[law] - 1) + "  lawOf" + l + ") = 1");
        }
        e.edge(4, "A LAW becomes v: what it was. BAD.", """
            set(0, 5) = 2  set(0, 6) = 5  set(0, 6) = 6  set(3, 30) = 20  set(3, 31) = 30
            set(-1, 0) ! -1  set(4, 0) ! -1  set(MIN, 0) ! -1  set(MAX, 0) ! -1  set(4, 100) ! -1
            lawOf(0) = 6  lawOf(1) = 1  lawOf(2) = 1  lawOf(3) = 31
            """);
        e.edge(5, "A LAW. BAD.", """
            lawOf(0) ! 2  lawOf(1) ! 1  lawOf(2) ! 1  lawOf(3) ! 20  lawOf(-1) ! -1  lawOf(4) ! -1  lawOf(MIN) ! -1  lawOf(MAX) ! -1
            """);
    }

    private static void leaf(Edges e) {
        e.edge(6, "LEAVES, 8 at most, numbered as they come", """
            leaf(0, 0, 1, 1) = 0  leaf(1, 1, 2, 2) = 1  leaf(2, 2, 3, 3) = 2  pluck(0) = 2  leaf(3, 3, 4, 4) = 3
            leaf(4, 4, 5, 5) = 4  leaf(5, 5, 6, 6) = 5  leaf(0, 0, 7, 7) = 6  many(0) = 7  leaf(1, 1, 8, 8) = 7  many(0) = 8  many(1) = 7
            leaf(2, 2, 9, 9) ! -2  of(7, 2) = 8  of(8, 0) ! -1
            pluck(7) = 6  leaf(2, 2, 9, 9) ! -2  many(0) = 8
            """);
        e.edge(6, "each of a KIND: 0 leaf; 1 red, 2 yellow, 5 evergreen (under leaf); 3 scarlet (under red); 4 gold (under yellow)", """
            leaf(0, 0, 0, 0) = 0  of(0, 0) = 0  leaf(5, 0, 0, 0) = 1  of(1, 0) = 5  leaf(-1, 0, 0, 0) ! -1  leaf(6, 0, 0, 0) ! -1
            leaf(MIN, 0, 0, 0) ! -1  leaf(MAX, 0, 0, 0) ! -1  many(0) = 2
            """);
        e.edge(6, "with HOLD (0 to 99)", """
            leaf(0, 0, 0, 0) = 0  of(0, 2) = 0  leaf(0, 0, 99, 0) = 1  of(1, 2) = 99  leaf(0, 0, -1, 0) ! -1  leaf(0, 0, 100, 0) ! -1
            leaf(0, 0, MIN, 0) ! -1  leaf(0, 0, MAX, 0) ! -1  many(0) = 2
            """);
        e.edge(6, "a SIGN (0 to 9)", """
            leaf(0, 0, 1, 0) = 0  of(0, 3) = 0  leaf(0, 0, 1, 9) = 1  of(1, 3) = 9  leaf(0, 0, 1, -1) ! -1  leaf(0, 0, 1, 10) ! -1
            leaf(0, 0, 1, MIN) ! -1  leaf(0, 0, 1, MAX) ! -1  many(0) = 2
            """);
        e.edge(6, "BOUGHS 0 to 5", """
            leaf(0, 0, 1, 0) = 0  of(0, 1) = 0  leaf(0, 5, 1, 0) = 1  of(1, 1) = 5  leaf(0, -1, 1, 0) ! -1  leaf(0, 6, 1, 0) ! -1
            leaf(0, MIN, 1, 0) ! -1  leaf(0, MAX, 1, 0) ! -1  many(0) = 2
            """);
        String eight = "leaf(0, 0, 9, 0) = 0 leaf(0, 0, 9, 0) = 1 leaf(0, 0, 9, 0) = 2 leaf(0, 0, 9, 0) = 3 leaf(0, 0, 9, 0) = 4"
            + " leaf(0, 0, 9, 0) = 5 leaf(0, 0, 9, 0) = 6 ";
        e.edge(6, "One more ON a BOUGH, that HANGS: its number. BAD; FULL.",
            "leaf(3, 4, 50, 6) = 0  of(0, 0) = 3  of(0, 1) = 4  of(0, 2) = 50  of(0, 3) = 6  of(0, 4) = 1  of(0, 5) = 0  many(1) = 1",
            // one that hangs without hold falls on the next day, not at once
            "leaf(0, 0, 0, 0) = 0  of(0, 4) = 1  days(1) = 0",
            eight + "leaf(6, 0, 0, 0) ! -1  leaf(0, 0, 9, 0) = 7  leaf(0, 0, 9, 0) ! -2",
            eight + "leaf(0, 0, 9, 0) = 7  leaf(6, 0, 0, 0) ! -1  leaf(-1, 0, 0, 0) ! -1  leaf(0, 6, 0, 0) ! -1  leaf(0, 0, 100, 0) ! -1  leaf(0, 0, 0, 10) ! -1");
    }

    private static void of(Edges e) {
        e.edge(7, "Of one: what = 0 KIND, 1 BOUGH, 2 HOLD, 3 SIGN, 4 1 if it HANGS, else 0, 5 as the how manyth it has FALLEN (0: it HANGS), 6 MATES. BAD.", """
            leaf(3, 2, 50, 7) = 0  leaf(4, 2, 40, 6) = 1  leaf(1, 2, 30, 5) = 2  leaf(1, 1, 30, 5) = 3
            of(0, 0) ! 3  of(0, 1) ! 2  of(0, 2) ! 50  of(0, 3) ! 7  of(0, 4) ! 1  of(0, 5) ! 0  of(0, 6) ! 2
            pluck(1) = 3  pluck(0) = 2
            of(1, 4) = 0  of(1, 5) = 1  of(0, 4) = 0  of(0, 5) = 2  of(2, 4) = 1  of(2, 5) = 0  of(0, 2) = 50
            of(0, -1) ! -1  of(0, 7) ! -1  of(0, MIN) ! -1  of(0, MAX) ! -1
            """, """
            of(0, 0) ! -1  leaf(3, 2, 50, 7) = 0  of(0, 0) = 3  of(1, 0) ! -1  of(-1, 0) ! -1  of(MIN, 0) ! -1  of(MAX, 0) ! -1  of(1, 7) ! -1
            """, """
            "leaf on 1;leaf on 1;leaf on 1;leaf on 1;leaf on 1;leaf on 1;leaf on 1;leaf on 2;" = 8  of(7, 1) = 2  of(8, 1) ! -1
            """);
        e.edge(7, "ON a BOUGH; it HANGS, or has FALLEN (as the how manyth: 1, 2, ..)", """
            "leaf on 1;leaf on 1;leaf on 1;leaf on 1;leaf on 1;leaf on 1;leaf on 1;leaf on 2;" = 8
            of(7, 5) = 0  pluck(7) = 7  of(7, 5) = 1  pluck(0) = 6  of(0, 5) = 2  pluck(6) = 5  pluck(1) = 4  pluck(5) = 3  pluck(2) = 2
            pluck(4) = 1  of(4, 5) = 7  of(3, 5) = 0  of(3, 4) = 1  pluck(3) = 0  of(3, 5) = 8  of(3, 4) = 0  of(7, 5) = 1
            """);
    }

    private static void mates(Edges e) {
        e.edge(7, "MATES of one: how many others that HANG are ON its BOUGH.", """
            leaf(0, 0, 50, 0) = 0  of(0, 6) = 0  leaf(0, 1, 50, 0) = 1  of(0, 6) = 0  leaf(0, 0, 50, 0) = 2  of(0, 6) = 1  of(2, 6) = 1  of(1, 6) = 0
            pluck(2) = 2  of(0, 6) = 0  of(2, 6) = 1  pluck(0) = 1  of(2, 6) = 0  of(0, 6) = 0
            move(1, 0) = 1  of(0, 6) = 1  of(2, 6) = 1  of(1, 6) = 0
            """, """
            "leaf on 1;leaf on 1;leaf on 1;leaf on 1;leaf on 1;leaf on 1;leaf on 1;leaf on 1;" = 8
            of(0, 6) = 7  of(7, 6) = 7  move(7, 2) = 1  of(0, 6) = 6  of(7, 6) = 0
            """);
    }

    private static void loses(Edges e) {
        String leaf = "set(0, 0) = 2  sway(2, 0) = 1  set(1, 0) = 1  set(2, 0) = 1 ";
        String most = "set(0, 9) = 2  sway(2, 9) = 1  set(1, 9) = 1  set(2, 9) = 1 ";
        e.edge(8, "LOSES: leaf: 1, and WIND, and SWAY of its BOUGH.",
            leaf + "leaf(0, 2, 50, 0) = 0  does(0, 0) = 1001  set(0, 1) = 0  does(0, 0) = 1002  sway(2, 3) = 0  does(0, 0) = 1005  sway(1, 9) = 1  does(0, 0) = 1005",
            most + "leaf(0, 2, 50, 0) = 0  does(0, 0) = 1019  move(0, 1) = 2  does(0, 0) = 1011",
            "leaf(0, 2, 50, 0) = 0  does(0, 0) = 1004");
        e.edge(8, "red: as leaf, and COLD.",
            leaf + "leaf(1, 2, 50, 0) = 0  does(0, 0) = 1001  set(1, 1) = 0  does(0, 0) = 1002  set(2, 9) = 0  does(0, 0) = 1002",
            most + "leaf(1, 2, 50, 0) = 0  does(0, 0) = 1028");
        e.edge(8, "scarlet: as red, twice that.",
            leaf + "leaf(3, 2, 50, 0) = 0  does(0, 0) = 1002  set(1, 1) = 0  does(0, 0) = 1004  set(0, 1) = 0  does(0, 0) = 1006",
            most + "leaf(3, 2, 50, 0) = 0  does(0, 0) = 1056");
        e.edge(8, "yellow: as leaf, less its MATES (so it may be below 0: it gains).",
            leaf + "leaf(2, 2, 50, 0) = 0  does(0, 0) = 1001  leaf(0, 2, 50, 0) = 1  does(0, 0) = 1000  leaf(0, 2, 50, 0) = 2  does(0, 0) = 999"
                + "  leaf(0, 3, 50, 0) = 3  does(0, 0) = 999  set(1, 9) = 0  set(2, 9) = 0  does(0, 0) = 999  pluck(1) = 3  does(0, 0) = 1000",
            leaf + "\"leaf on 2;leaf on 2;leaf on 2;leaf on 2;leaf on 2;leaf on 2;leaf on 2;yellow on 2;wind 0;sway 2 is 0;\" = 8  does(7, 0) = 994",
            most + "leaf(2, 2, 50, 0) = 0  does(0, 0) = 1019");
        e.edge(8, "gold: as yellow, and WET on even DAYS.",
            leaf + "leaf(4, 2, 50, 0) = 0  does(0, 0) = 1001  set(2, 9) = 0  does(0, 0) = 1010  leaf(0, 2, 50, 0) = 1  does(0, 0) = 1009  days(1) = 2  does(0, 0) = 1000"
                + "  days(1) = 2  does(0, 0) = 1009  days(1) = 2  does(0, 0) = 1000",
            "\"leaf on 2;leaf on 2;leaf on 2;leaf on 2;leaf on 2;leaf on 2;leaf on 2;gold on 2;wind 0;sway 2 is 0;wet 0;\" = 8  does(7, 0) = 994",
            most + "leaf(4, 2, 50, 0) = 0  does(0, 0) = 1028");
        e.edge(8, "evergreen: as leaf, on DAYS whose rest by 5 is 0; else 0.",
            "leaf(5, 2, 50, 0) = 0  does(0, 0) = 1004  days(1) = 1  does(0, 0) = 1000  days(3) = 1  does(0, 0) = 1000  days(1) = 1  does(0, 0) = 1004"
                + "  days(1) = 1  does(0, 0) = 1000  days(4) = 1  state(0) = 10  does(0, 0) = 1004",
            leaf + "leaf(5, 2, 50, 0) = 0  does(0, 0) = 1001", most + "leaf(5, 2, 50, 0) = 0  does(0, 0) = 1019  days(1) = 1  does(0, 0) = 1000");
        e.edge(8, "1000, and what one LOSES (what 0), its RANK (1) now (whether it HANGS or not). BAD.", """
            leaf(2, 2, 50, 4) = 0  leaf(0, 2, 50, 5) = 1  does(0, 0) ! 1003  does(0, 1) ! 1006  pluck(0) = 1  does(0, 0) ! 1003  does(0, 1) ! 1006
            pluck(1) = 0  does(0, 0) = 1004  does(1, 0) = 1004  does(1, 1) = 1005
            does(0, -1) ! -1  does(0, 2) ! -1  does(0, MAX) ! -1  does(0, MIN) ! -1  does(2, 0) ! -1  does(-1, 0) ! -1  does(MAX, 1) ! -1  does(MIN, 1) ! -1
            """, "does(0, 0) ! -1  does(0, 1) ! -1");
    }

    private static String rankOf(int kind, int bough, int least, int most) {
        return "leaf(" + kind + ", " + bough + ", 50, 0) = 0  does(0, 1) = " + least + "  mind(0, " + kind + ", 9) = " + kind + "  does(0, 1) = " + most + " ";
    }

    private static void rank(Edges e) {
        e.edge(8, "RANK: leaf: SIGN.", rankOf(0, 4, 1000, 1009));
        e.edge(8, "red: as leaf, and 3.", rankOf(1, 4, 1003, 1012));
        e.edge(8, "scarlet: as red, and its BOUGH.", rankOf(3, 0, 1003, 1012), rankOf(3, 5, 1008, 1017) + "move(0, 1) = 5  does(0, 1) = 1013");
        e.edge(8, "yellow: 10, less as leaf.", rankOf(2, 4, 1010, 1001));
        e.edge(8, "gold: as yellow, twice that.", rankOf(4, 4, 1020, 1002));
        e.edge(8, "evergreen: 0 less as leaf.", rankOf(5, 4, 1000, 991));
    }

    private static void mind(Edges e) {
        e.edge(9, "One becomes one of another KIND, with another SIGN: the KIND that it was. BAD.", """
            leaf(3, 2, 50, 7) = 0  mind(0, 5, 9) = 3  of(0, 0) = 5  of(0, 3) = 9  of(0, 1) = 2  of(0, 2) = 50  mind(0, 0, 0) = 5  of(0, 0) = 0  of(0, 3) = 0
            mind(0, 0, 1) = 0  mind(0, -1, 0) ! -1  mind(0, 6, 0) ! -1  mind(0, MAX, 0) ! -1  mind(0, MIN, 0) ! -1
            mind(0, 1, -1) ! -1  mind(0, 1, 10) ! -1  mind(0, 1, MAX) ! -1  mind(0, 1, MIN) ! -1
            mind(1, 1, 1) ! -1  mind(-1, 1, 1) ! -1  mind(MAX, 1, 1) ! -1  mind(MIN, 1, 1) ! -1
            """, """
            mind(0, 0, 0) ! -1  leaf(0, 0, 9, 4) = 0  pluck(0) = 0  mind(0, 4, 8) = 0  of(0, 0) = 4  of(0, 4) = 0  of(0, 5) = 1  written(0) = 8
            """);
    }

    private static void hold(Edges e) {
        e.edge(10, "HOLD becomes v: what it was. BAD.", """
            leaf(3, 2, 50, 7) = 0  hold(0, 99) = 50  of(0, 2) = 99  hold(0, 0) = 99  of(0, 2) = 0  of(0, 4) = 1  hold(0, 1) = 0
            hold(0, -1) ! -1  hold(0, 100) ! -1  hold(0, MIN) ! -1  hold(0, MAX) ! -1
            hold(1, 0) ! -1  hold(-1, 0) ! -1  hold(MAX, 0) ! -1  hold(MIN, 0) ! -1
            """, "hold(0, 0) ! -1  leaf(0, 0, 9, 4) = 0  pluck(0) = 0  hold(0, 7) = 9  of(0, 2) = 7  of(0, 4) = 0");
    }

    private static void move(Edges e) {
        e.edge(11, "It is ON a BOUGH from now on: ON which it was. BAD.", """
            leaf(3, 2, 50, 7) = 0  move(0, 5) = 2  of(0, 1) = 5  bough(5, 1) = 1  bough(2, 1) = 0  move(0, 0) = 5  of(0, 1) = 0  move(0, 0) = 0
            move(0, -1) ! -1  move(0, 6) ! -1  move(0, MIN) ! -1  move(0, MAX) ! -1
            move(1, 0) ! -1  move(-1, 0) ! -1  move(MAX, 0) ! -1  move(MIN, 0) ! -1
            """, "move(0, 0) ! -1  leaf(0, 0, 9, 4) = 0  pluck(0) = 0  move(0, 3) = 0  of(0, 1) = 3  bough(3, 1) = 0");
    }

    private static void pluck(Edges e) {
        e.edge(12, "It has FALLEN, at once, as the next one: how many HANG then. BAD; NONE: it has.", """
            "leaf on 0 hold 9 sign 4; leaf on 0 hold 9 sign 5; leaf on 1 hold 9 sign 6;" = 3
            pluck(2) = 2  of(2, 4) = 0  of(2, 5) = 1  of(2, 2) = 9  state(0) = 0  pluck(2) ! -3
            pluck(3) ! -1  pluck(-1) ! -1  pluck(MAX) ! -1  pluck(MIN) ! -1
            pluck(0) = 1  of(0, 5) = 2  pluck(1) = 0  of(1, 5) = 3  pluck(1) ! -3  pluck(0) ! -3  state(4) = 645
            """, "pluck(0) ! -1  leaf(0, 0, 0, 0) = 0  days(1) = 0  pluck(0) ! -3",
            // behind one that fell by a day
            "leaf(0, 0, 0, 3) = 0  leaf(0, 0, 50, 4) = 1  days(1) = 1  pluck(1) = 0  of(1, 5) = 2  written(1) = 4");
    }

    private static void bough(Edges e) {
        e.edge(13, "Of a BOUGH: what = 0 SWAY, 1 those ON it that HANG, as a set. BAD.", """
            leaf(0, 5, 50, 0) = 0  leaf(0, 0, 50, 0) = 1  leaf(0, 5, 50, 0) = 2  leaf(0, 0, 50, 0) = 3  sway(5, 7) = 1
            bough(5, 0) ! 7  bough(5, 1) ! 5  bough(0, 0) ! 1  bough(0, 1) ! 10  bough(1, 1) ! 0  pluck(0) = 3  bough(5, 1) = 4  pluck(2) = 2  bough(5, 1) = 0
            bough(-1, 0) ! -1  bough(6, 0) ! -1  bough(-1, 1) ! -1  bough(6, 1) ! -1  bough(MIN, 1) ! -1  bough(MAX, 1) ! -1
            bough(0, -1) ! -1  bough(0, 2) ! -1  bough(0, MIN) ! -1  bough(0, MAX) ! -1  bough(6, 2) ! -1
            """);
        e.edge(13, "Sets are told by bits.", """
            "leaf on 5;leaf on 1;leaf on 1;leaf on 1;leaf on 1;leaf on 1;leaf on 1;leaf on 5;" = 8
            bough(5, 1) = 129  bough(1, 1) = 126  state(1) = 255  pluck(7) = 7  bough(5, 1) = 1  pluck(0) = 6  bough(5, 1) = 0  state(1) = 126
            """);
        e.edge(13, "each with a SWAY (0 to 9; 1 at first).", """
            bough(0, 0) = 1  bough(1, 0) = 1  bough(2, 0) = 1  bough(3, 0) = 1  bough(4, 0) = 1  bough(5, 0) = 1  bough(6, 0) ! -1
            """);
    }

    private static void sway(Edges e) {
        e.edge(14, "SWAY of a BOUGH becomes v: what it was. BAD.", """
            sway(5, 9) = 1  bough(5, 0) = 9  sway(5, 0) = 9  bough(5, 0) = 0  sway(5, 1) = 0  sway(0, 9) = 1  bough(0, 0) = 9  bough(5, 0) = 1
            sway(5, -1) ! -1  sway(5, 10) ! -1  sway(5, MIN) ! -1  sway(5, MAX) ! -1
            sway(-1, 1) ! -1  sway(6, 1) ! -1  sway(MIN, 1) ! -1  sway(MAX, 1) ! -1  sway(6, 10) ! -1
            """);
    }
}
