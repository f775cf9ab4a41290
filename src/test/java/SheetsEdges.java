/** Promises 32 to 41: rows and the reader, sheets and shelves. */
final class SheetsEdges {
    static void play(Edges e) {
        prove(e);
        row(e);
        alterRow(e);
        judge(e);
        minds(e);
        mindsRefused(e);
        sheet(e);
        put(e);
        item(e);
        shelf(e);
        shelvesHold(e);
        taken(e);
        host(e);
    }

    private static void prove(Edges e) {
        e.edge(32, "ROWS of one: (HOLD, 1 if it HANGS, else 0, how many have FALLEN) behind 1, 2, .. n DAYS, tried.", """
            "leaf on 0 hold 10 sign 1; leaf on 0 hold 1 sign 2; leaf on 0 hold 50;" = 3  pluck(2) = 2  prove(0, 10) = 10
            row(0, 0) = 6  row(0, 1) = 1  row(0, 2) = 2  row(1, 0) = 2  row(1, 1) = 1  row(1, 2) = 2  row(2, 0) = 0  row(2, 1) = 0  row(2, 2) = 3
            row(9, 0) = 0  row(9, 1) = 0  row(9, 2) = 3  of(0, 2) = 10  state(0) = 0  many(2) = 1  seed(1) = 1
            """, """
            leaf(0, 0, 50, 1) = 0  pluck(0) = 0  prove(0, 2) = 2  row(0, 0) = 50  row(0, 1) = 0  row(0, 2) = 1  row(1, 0) = 50
            """);
        e.edge(32, "ROWS of one by n DAYS (1 to 10): how many. BAD.", """
            prove(0, 1) ! -1  leaf(0, 0, 99, 0) = 0  prove(0, 0) ! -1  prove(0, 11) ! -1  prove(0, -1) ! -1  prove(0, MIN) ! -1  prove(0, MAX) ! -1
            prove(1, 1) ! -1  prove(-1, 1) ! -1  prove(MAX, 1) ! -1  prove(MIN, 1) ! -1
            prove(0, 1) = 1  many(4) = 1  row(0, 0) = 95  row(1, 0) = -9  prove(0, 10) = 10  many(4) = 10  row(9, 0) = 59  prove(0, 11) ! -1  prove(1, 3) ! -1
            prove(0, 2) = 2  many(4) = 2  row(1, 0) = 91  row(2, 0) = -9
            """);
    }

    private static void row(Edges e) {
        e.edge(33, "Of ROW i: what = 0 HOLD, 1 whether it HANGS, 2 how many have FALLEN. -9: there is none such, another what.", """
            row(0, 0) ! -9  leaf(0, 0, 10, 1) = 0  prove(0, 3) = 3  row(0, 0) ! 6  row(0, 1) ! 1  row(0, 2) ! 0  row(2, 0) ! 0  row(2, 1) ! 0  row(2, 2) ! 1
            row(3, 0) ! -9  row(-1, 0) ! -9  row(MAX, 0) ! -9  row(MIN, 0) ! -9  row(0, 3) ! -9  row(0, -1) ! -9  row(0, MAX) ! -9  row(0, MIN) ! -9  row(1, 3) ! -9
            """, "leaf(0, 0, 10, 1) = 0  prove(0, 10) = 10  row(9, 2) = 1  row(10, 2) ! -9  row(9, 3) ! -9");
    }

    private static void alterRow(Edges e) {
        e.edge(34, "It becomes v: what it was. -9 likewise.", """
            alterRow(0, 0, 5) ! -9  leaf(0, 0, 10, 1) = 0  prove(0, 3) = 3  alterRow(1, 0, -77) = 2  alterRow(1, 1, MAX) = 1  alterRow(1, 2, MIN) = 0
            row(1, 0) = -77  row(1, 1) = MAX  row(1, 2) = MIN  row(0, 0) = 6  row(0, 1) = 1  row(0, 2) = 0  row(2, 0) = 0  row(2, 1) = 0  row(2, 2) = 1
            alterRow(1, 0, 2) = -77  alterRow(0, 0, 1) = 6  alterRow(2, 2, 9) = 1  row(2, 2) = 9
            alterRow(3, 0, 1) ! -9  alterRow(-1, 0, 1) ! -9  alterRow(MAX, 0, 1) ! -9  alterRow(MIN, 0, 1) ! -9
            alterRow(0, 3, 1) ! -9  alterRow(0, -1, 1) ! -9  alterRow(0, MAX, 1) ! -9  alterRow(0, MIN, 1) ! -9  alterRow(1, 3, 1) ! -9
            """, "leaf(0, 0, 99, 1) = 0  prove(0, 10) = 10  alterRow(9, 0, 5) = 59  alterRow(10, 0, 5) ! -9  row(9, 0) = 5");
    }

    private static void judge(Edges e) {
        String three = "\"leaf on 0 hold 10 sign 1; leaf on 0 hold 10 sign 1; leaf on 1 hold 10 sign 1; sway 1 is 2;\" = 3 ";
        e.edge(35, "THE READER takes ROWS: 0 all is right (also if there are none); else the first ROW that isn't, and 1 more. BAD.",
            three + "judge(0) ! 0  judge(3) ! -1  judge(-1) ! -1  judge(MAX) ! -1  judge(MIN) ! -1",
            // the other one falls a day later; the third one loses more at once
            three + "prove(0, 6) = 6  judge(0) ! 0  judge(1) ! 3  judge(2) ! 1  judge(3) ! -1  judge(-1) ! -1",
            three + "prove(0, 10) = 10  judge(0) ! 0  alterRow(9, 0, 1) = 0  judge(0) ! 10  alterRow(8, 2, 7) = 3  judge(0) ! 9  alterRow(0, 1, 2) = 1  judge(0) ! 1",
            three + "prove(0, 1) = 1  judge(0) ! 0  alterRow(0, 0, 7) = 6  judge(0) ! 1  alterRow(0, 0, 6) = 7  judge(0) ! 0",
            "judge(0) ! -1  leaf(0, 0, 9, 0) = 0  judge(0) ! 0  judge(1) ! -1  leaf(0, 0, 9, 0) = 1  judge(1) ! 0  judge(2) ! -1");
        StringBuilder each = new StringBuilder(three + "prove(0, 4) = 4 ");
        int[][] rows = {{6, 1, 0}, {2, 1, 1}, {0, 0, 2}, {0, 0, 3}};
        for (int i = 0; i < 4; i++) {
            for (int what = 0; what < 3; what++) {
                String place = "alterRow(" + i + ", " + what + ", ";
                each.append(place).append("98) = ").append(rows[i][what]).append(" judge(0) ! ").append(i + 1).append(' ')
                    .append(place).append(rows[i][what]).append(") = 98 ");
            }
        }
        e.edge(35, "right is one that is as it must be.", each + "judge(0) ! 0");
        e.edge(35, "THE READER takes ROWS as those of one, from how it is now",
            three + "prove(0, 6) = 6  hold(0, 11) = 10  judge(0) ! 1  hold(0, 10) = 11  judge(0) ! 0  days(1) = 3  judge(0) ! 1",
            // a row is right by what must be, not by the rows ahead of it
            three + "prove(0, 3) = 3  alterRow(0, 0, 10) = 6  alterRow(1, 0, 6) = 2  judge(0) ! 1  alterRow(0, 0, 6) = 10  judge(0) ! 2");
    }

    private static void minds(Edges e) {
        e.edge(36, "n numbers (0 to 8) of a SHEET taken for bytes, from i on, become HOLD of LEAVES from one on (held to 0 to 99): n.", """
            "leaf on 0 hold 1; leaf on 0 hold 2; leaf on 0 hold 3; leaf on 0 hold 4;" = 4  sheet(0, 0, 5) = 1
            put(0, 0, 7) = 1  put(0, 1, -1) = 1  put(0, 2, 100) = 1  put(0, 3, 99) = 1  put(0, 4, 98) = 1  minds(0, 0, 1, 3) = 3
            of(0, 2) = 1  of(1, 2) = 7  of(2, 2) = 0  of(3, 2) = 99  minds(0, 3, 0, 2) = 2  of(0, 2) = 99  of(1, 2) = 98  of(2, 2) = 0
            put(0, 0, 0) = 1  put(0, 1, 1) = 1  put(0, 2, 127) = 1  put(0, 3, -128) = 1  minds(0, 0, 0, 4) = 4
            of(0, 2) = 0  of(1, 2) = 1  of(2, 2) = 99  of(3, 2) = 0  item(0, 0, 2) = 127
            """, """
            "leaf on 1;leaf on 1;leaf on 1;leaf on 1;leaf on 1;leaf on 1;leaf on 1;leaf on 2;" = 8  sheet(3, 0, 40) = 1  put(3, 39, 55) = 1  put(3, 32, 44) = 1
            minds(3, 32, 0, 8) = 8  of(0, 2) = 44  of(7, 2) = 55  of(1, 2) = 0  minds(3, 39, 2, 1) = 1  of(2, 2) = 55  minds(3, 0, 7, 1) = 1  of(7, 2) = 0
            """, """
            leaf(0, 0, 9, 0) = 0  pluck(0) = 0  sheet(0, 0, 1) = 1  put(0, 0, 77) = 1  minds(0, 0, 0, 1) = 1  of(0, 2) = 77  of(0, 4) = 0
            """);
    }

    private static void mindsRefused(Edges e) {
        String four = "\"leaf on 0 hold 1; leaf on 0 hold 2; leaf on 0 hold 3; leaf on 0 hold 4;\" = 4 ";
        e.edge(36, "BAD: no such SHEET, one, n, or n goes beyond the last one; -11; -13; -12: i is not 0 to how many items there are (also for n 0), or there are not so many.",
            // the sheet is missing, and yet these are refused ahead of that
            four + "minds(-1, 0, 0, 1) ! -1  minds(4, 0, 0, 1) ! -1  minds(MIN, 0, 0, 1) ! -1  minds(MAX, 0, 0, 1) ! -1  minds(2, 0, 4, 0) ! -1  minds(2, 0, -1, 1) ! -1"
                + "  minds(2, 0, MAX, 1) ! -1  minds(2, 0, MIN, 1) ! -1  minds(2, 0, MAX, MAX) ! -1  minds(2, 0, 0, -1) ! -1  minds(2, 0, 0, 9) ! -1  minds(2, 0, 0, MIN) ! -1"
                + "  minds(2, 0, 0, MAX) ! -1  minds(2, 0, 0, 5) ! -1  minds(2, 0, 3, 2) ! -1  minds(2, 0, 1, 4) ! -1",
            four + "minds(2, 0, 0, 4) ! -11  minds(2, 0, 3, 1) ! -11  minds(2, 9, 0, 0) ! -11  minds(2, -1, 0, 1) ! -11  minds(0, 0, 0, 0) ! -11  minds(3, 0, 0, 1) ! -11",
            four + "sheet(0, 1, 5) = 1  sheet(1, 2, 5) = 1  sheet(2, 3, 5) = 1  minds(0, 0, 0, 1) ! -13  minds(1, 9, 0, 1) ! -13  minds(2, -1, 0, 0) ! -13  minds(0, 0, 0, 5) ! -1",
            four + "sheet(0, 0, 3) = 1  put(0, 2, 50) = 1  minds(0, 3, 3, 0) ! 0  minds(0, 0, 3, 0) ! 0  minds(0, 4, 3, 0) ! -12  minds(0, -1, 3, 0) ! -12"
                + "  minds(0, MAX, 0, 0) ! -12  minds(0, MIN, 0, 0) ! -12  minds(0, MAX, 0, 4) ! -12  minds(0, MIN, 0, 4) ! -12  minds(0, 3, 0, 1) ! -12  minds(0, 2, 0, 2) ! -12"
                + "  minds(0, 1, 0, 3) ! -12  minds(0, 0, 0, 4) ! -12  minds(0, 2, 0, 1) = 1  of(0, 2) = 50  minds(0, 1, 2, 2) = 2  of(3, 2) = 50  minds(0, 0, 0, 3) = 3  of(2, 2) = 50",
            four + "sheet(3, 0, 0) = 1  minds(3, 0, 0, 0) ! 0  minds(3, 1, 0, 0) ! -12  minds(3, 0, 0, 1) ! -12",
            "sheet(0, 0, 3) = 1  minds(0, 0, 0, 0) ! -1");
    }

    private static void sheet(Edges e) {
        e.edge(37, "SHEETS 0 to 3 are rows of bytes (sort 0), shorts (1), ints (2) or longs (3), 40 at most, or missing (at first).", """
            item(0, 0, 0) = -11  item(1, 1, 0) = -11  item(2, 2, 0) = -11  item(3, 3, 0) = -11
            sheet(0, 0, 40) = 1  sheet(1, 1, 40) = 1  sheet(2, 2, 40) = 1  sheet(3, 3, 40) = 1  item(0, 0, 39) = 0  item(1, 1, 39) = 0  item(2, 2, 39) = 0  item(3, 3, 39) = 0
            item(0, 0, 40) ! -12  item(3, 3, 40) ! -12  sheet(-1, 0, 1) ! -1  sheet(4, 0, 1) ! -1  sheet(MIN, 0, 1) ! -1  sheet(MAX, 0, 1) ! -1
            """);
        e.edge(37, "A SHEET becomes a row of n of a sort, all 0, or missing (sort -1; n counts nothing then): 1.", """
            sheet(0, 0, 40) = 1  put(0, 0, 5) = 1  put(0, 39, 6) = 1  sheet(0, 0, 40) = 1  item(0, 0, 0) = 0  item(0, 0, 39) = 0  put(0, 2, 5) = 1
            sheet(0, 3, 3) = 1  item(0, 3, 2) = 0  item(0, 3, 3) = -12  item(0, 0, 2) = -13  sheet(0, -1, 9) = 1  item(0, 3, 2) = -11
            sheet(0, -1, 41) = 1  sheet(0, -1, MAX) = 1  sheet(0, -1, -1) = 1  sheet(0, -1, MIN) = 1  item(0, 0, 0) = -11
            sheet(0, 2, 0) = 1  item(0, 2, 0) = -12  sheet(0, 2, 1) = 1  item(0, 2, 0) = 0  item(0, 2, 1) = -12
            """, "sheet(1, 0, 3) = 1  put(1, 0, 4) = 1  sheet(2, 0, 3) = 1  put(2, 0, 5) = 1  item(1, 0, 0) = 4  sheet(2, -1, 0) = 1  item(1, 0, 0) = 4  item(2, 0, 0) = -11");
        e.edge(37, "BAD: no such SHEET, sort, n above 40; -14.", """
            sheet(1, 2, 4) = 1  put(1, 0, 9) = 1  sheet(1, 4, 1) ! -1  sheet(1, -2, 1) ! -1  sheet(1, MAX, 1) ! -1  sheet(1, MIN, 1) ! -1  sheet(4, -1, 1) ! -1  sheet(-1, -1, 1) ! -1
            sheet(1, 2, 41) ! -1  sheet(1, 2, MAX) ! -1  sheet(1, 0, 41) ! -1  sheet(1, 3, 41) ! -1  sheet(1, 2, -1) ! -14  sheet(1, 0, -1) ! -14  sheet(1, 3, MIN) ! -14
            sheet(1, 4, -1) ! -1  sheet(4, 2, -1) ! -1  sheet(1, -2, -1) ! -1  item(1, 2, 0) = 9  sheet(1, 2, 40) = 1  sheet(1, 2, 0) = 1
            """);
    }

    private static void put(Edges e) {
        String narrowed = "Item i becomes v, narrowed to its sort: 1.";
        e.edge(38, narrowed, """
            sheet(0, 0, 3) = 1  put(0, 1, 127) = 1  item(0, 0, 1) = 127  put(0, 1, 128) = 1  item(0, 0, 1) = -128  put(0, 1, -128) = 1  item(0, 0, 1) = -128
            put(0, 1, -129) = 1  item(0, 0, 1) = 127  put(0, 1, 256) = 1  item(0, 0, 1) = 0  put(0, 1, MAX) = 1  item(0, 0, 1) = -1  put(0, 1, MIN) = 1  item(0, 0, 1) = 0
            item(0, 0, 0) = 0  item(0, 0, 2) = 0
            """, """
            sheet(0, 1, 3) = 1  put(0, 1, 32767) = 1  item(0, 1, 1) = 32767  put(0, 1, 32768) = 1  item(0, 1, 1) = -32768  put(0, 1, -32768) = 1  item(0, 1, 1) = -32768
            put(0, 1, -32769) = 1  item(0, 1, 1) = 32767  put(0, 1, 65536) = 1  item(0, 1, 1) = 0  put(0, 1, MAX) = 1  item(0, 1, 1) = -1  put(0, 1, 200) = 1  item(0, 1, 1) = 200
            """, """
            sheet(0, 2, 3) = 1  put(0, 1, MAX) = 1  item(0, 2, 1) = MAX  put(0, 1, MIN) = 1  item(0, 2, 1) = MIN  put(0, 1, 65536) = 1  item(0, 2, 1) = 65536
            """, """
            sheet(0, 3, 3) = 1  put(0, 1, MAX) = 1  item(0, 3, 1) = MAX  put(0, 1, MIN) = 1  item(0, 3, 1) = MIN  put(0, 1, -1) = 1  item(0, 3, 1) = -1
            """);
        e.edge(38, "BAD: no such SHEET; -11; -12.", """
            put(0, 0, 1) ! -11  put(0, 99, 1) ! -11  put(-1, 0, 1) ! -1  put(4, 0, 1) ! -1  put(MIN, 0, 1) ! -1  put(MAX, 0, 1) ! -1
            sheet(0, 0, 3) = 1  put(0, 0, 4) = 1  put(0, 2, 5) = 1  item(0, 0, 0) = 4  item(0, 0, 2) = 5  put(0, 3, 1) ! -12  put(0, -1, 1) ! -12  put(0, MAX, 1) ! -12  put(0, MIN, 1) ! -12
            sheet(3, 3, 40) = 1  put(3, 39, 8) = 1  item(3, 3, 39) = 8  put(3, 40, 8) ! -12  sheet(3, 3, 0) = 1  put(3, 0, 8) ! -12
            """);
    }

    private static void item(Edges e) {
        e.edge(39, "Item i, taken for a sort (0 to 3; of longs the lowest 32 bits). BAD: no such SHEET, sort; -11; -13; -12. (An item may be as low as these, too.)", """
            item(0, 0, 0) ! -11  item(3, 3, 99) ! -11  item(0, -1, 0) ! -1  item(0, 4, 0) ! -1  item(0, MIN, 0) ! -1  item(0, MAX, 0) ! -1
            item(-1, 0, 0) ! -1  item(4, 0, 0) ! -1  item(MIN, 0, 0) ! -1  item(MAX, 0, 0) ! -1
            """, """
            sheet(0, 0, 3) = 1  sheet(1, 1, 3) = 1  sheet(2, 2, 3) = 1  sheet(3, 3, 3) = 1
            item(0, 0, 2) ! 0  item(0, 1, 2) ! -13  item(0, 2, 2) ! -13  item(0, 3, 2) ! -13  item(1, 0, 2) ! -13  item(1, 1, 2) ! 0  item(1, 2, 2) ! -13  item(1, 3, 2) ! -13
            item(2, 0, 2) ! -13  item(2, 1, 2) ! -13  item(2, 2, 2) ! 0  item(2, 3, 2) ! -13  item(3, 0, 2) ! -13  item(3, 1, 2) ! -13  item(3, 2, 2) ! -13  item(3, 3, 2) ! 0
            """, """
            sheet(0, 0, 3) = 1  item(0, 0, 0) = 0  item(0, 0, 2) = 0  item(0, 0, 3) ! -12  item(0, 0, -1) ! -12  item(0, 0, MAX) ! -12  item(0, 0, MIN) ! -12
            item(0, 1, 3) ! -13  item(0, 4, 3) ! -1  sheet(0, -1, 0) = 1  item(0, 1, 3) ! -11  item(0, 4, 0) ! -1
            """, """
            sheet(0, 0, 1) = 1  put(0, 0, -11) = 1  item(0, 0, 0) = -11  put(0, 0, -13) = 1  item(0, 0, 0) = -13  sheet(0, 3, 1) = 1  put(0, 0, -2) = 1  item(0, 3, 0) = -2
            """);
    }

    private static void shelf(Edges e) {
        e.edge(40, "A SHELF holds one of the LEAVES (what 0, its number n), the row of SHEET n (1; nothing, if missing), nothing (2): 1. BAD: no such SHELF, what, thing.", """
            "leaf on 0; red on 0;" = 2  sheet(2, 1, 7) = 1  shelf(0, 0, 1) = 1  taken(0, 0) = 1  shelf(0, 1, 2) = 1  taken(0, 11) = 7  shelf(0, 1, 3) = 1  taken(0, 0) = -11
            shelf(3, 0, 0) = 1  taken(3, 0) = 0  taken(2, 0) = -11  shelf(3, 2, 99) = 1  taken(3, 0) = -11  shelf(3, 2, -1) = 1  shelf(3, 0, 1) = 1
            shelf(-1, 0, 0) ! -1  shelf(4, 0, 0) ! -1  shelf(MIN, 0, 0) ! -1  shelf(MAX, 0, 0) ! -1  shelf(4, 2, 0) ! -1  shelf(4, 1, 2) ! -1
            shelf(3, -1, 0) ! -1  shelf(3, 3, 0) ! -1  shelf(3, MIN, 0) ! -1  shelf(3, MAX, 0) ! -1
            shelf(3, 0, 2) ! -1  shelf(3, 0, -1) ! -1  shelf(3, 0, MAX) ! -1  shelf(3, 0, MIN) ! -1
            shelf(3, 1, 4) ! -1  shelf(3, 1, -1) ! -1  shelf(3, 1, MAX) ! -1  shelf(3, 1, MIN) ! -1  taken(3, 0) = 1
            """, """
            shelf(0, 0, 0) ! -1  sheet(0, 0, 2) = 1  sheet(3, 3, 4) = 1  shelf(0, 1, 0) = 1  shelf(3, 1, 3) = 1  taken(0, 10) = 2  taken(3, 13) = 4
            """, """
            "leaf on 1;leaf on 1;leaf on 1;leaf on 1;leaf on 1;leaf on 1;leaf on 1;leaf on 2;" = 8  shelf(1, 0, 7) = 1  taken(1, 0) = 7  shelf(1, 0, 8) ! -1
            """);
    }

    private static void shelvesHold(Edges e) {
        e.edge(40, "SHELVES 0 to 3 hold one of the LEAVES (by its number; nothing, if there is no such one at the time), a SHEET's row, or nothing (at first).",
            "taken(0, 0) ! -11  taken(1, 0) ! -11  taken(2, 10) ! -11  taken(3, 13) ! -11",
            // by its number: what it is, is seen when it is taken; one that has fallen is held, too
            """
            "leaf on 0; red on 0;" = 2  keep() = 1  shelf(0, 0, 1) = 1  shelf(3, 0, 0) = 1  taken(0, 1) = 1  mind(1, 2, 0) = 1  taken(0, 1) = -13  taken(0, 2) = 1
            pluck(1) = 1  taken(0, 2) = 1  "gold on 1;" = 1  taken(0, 0) ! -11  taken(3, 4) ! 0  act(0, 0, 1) = 0  leaf(4, 0, 0, 0) = 1  taken(0, 4) = 1  again() = 2  taken(0, 1) = 1
            """,
            // the row that the sheet had then
            """
            sheet(1, 2, 7) = 1  shelf(0, 1, 1) = 1  sheet(1, 3, 9) = 1  taken(0, 12) = 7  taken(0, 13) = -13  sheet(1, -1, 0) = 1  taken(0, 12) = 7
            shelf(1, 1, 1) = 1  taken(1, 12) = -11  sheet(1, 2, 5) = 1  taken(1, 12) = -11
            """);
    }

    private static void taken(Edges e) {
        // 1 red, 2 yellow and 5 evergreen are under 0 leaf, 3 scarlet under red, 4 gold under yellow
        String[] under = {"0", "01", "02", "013", "024", "05"};
        String sentence = "What a SHELF holds taken for a thing of KIND as (0 to 5, or one under it): its number; for a row of sort as - 10 (as 10 to 13): how many items."
            + " BAD: no such SHELF, as; -11; -13.";
        for (int kind = 0; kind < 6; kind++) {
            StringBuilder script = new StringBuilder("leaf(0, 0, 50, 0) = 0  leaf(0, 0, 50, 0) = 1  leaf(" + kind + ", 0, 50, 0) = 2  shelf(1, 0, 2) = 1");
            for (int as = -1; as < 15; as++) {
                boolean none = as < 0 || as > 5 && as < 10 || as > 13;
                int want = none ? -1 : as > 5 ? -13 : under[kind].indexOf('0' + as) >= 0 ? 2 : -13;
                script.append(" taken(1, ").append(as).append(") ! ").append(want);
            }
            e.edge(41, sentence, script.toString());
        }
        for (int sort = 0; sort < 4; sort++) {
            StringBuilder script = new StringBuilder("sheet(" + sort + ", " + sort + ", " + 13 * sort + ") = 1  shelf(2, 1, " + sort + ") = 1");
            for (int as = -1; as < 15; as++) {
                boolean none = as < 0 || as > 5 && as < 10 || as > 13;
                script.append(" taken(2, ").append(as).append(") ! ").append(none ? -1 : as == 10 + sort ? 13 * sort : -13);
            }
            e.edge(41, sentence, script.toString());
        }
        e.edge(41, sentence, "sheet(0, 0, 40) = 1  shelf(0, 1, 0) = 1  taken(0, 10) ! 40", """
            taken(0, -1) ! -1  taken(0, 0) ! -11  taken(0, 5) ! -11  taken(0, 6) ! -1  taken(0, 9) ! -1  taken(0, 10) ! -11  taken(0, 13) ! -11  taken(0, 14) ! -1
            taken(0, MIN) ! -1  taken(0, MAX) ! -1  taken(-1, 0) ! -1  taken(4, 0) ! -1  taken(-1, 10) ! -1  taken(4, 10) ! -1  taken(MIN, 0) ! -1  taken(MAX, 0) ! -1  taken(3, 0) ! -11
            """);
    }

    private static void host(Edges e) {
        e.edge(38, "and what the host refuses: -11 nothing where something is asked, -12 a place outside, -13 a thing of another sort or kind, -14 a size below 0, -15 parted by 0.", """
            put(0, 0, 1) ! -11  sheet(0, 0, 1) = 1  put(0, 0, 1) = 1  put(0, 1, 1) ! -12  item(0, 0, 0) = 1  item(0, 1, 0) ! -13  sheet(0, 0, 0) = 1  sheet(0, 0, -1) ! -14
            """, """
            leaf(0, 0, 9, 1) = 0  shelf(0, 0, 0) = 1  taken(0, 0) ! 0  taken(0, 1) ! -13  taken(1, 0) ! -11  act(0, 2, 7) = 7  hold(0, 8) = 9  mind(0, 0, 0) = 0  act(0, 2, 7) = -15
            """);
    }
}
