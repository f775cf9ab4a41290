/** Promises 15 to 20: days, days by draws, and what is written. */
final class DaysEdges {
    static void play(Edges e) {
        days(e);
        holds(e);
        faller(e);
        seed(e);
        dayWithoutLeaves(e);
        whoIsDrawn(e);
        gales(e);
        thirds(e);
        lost(e);
        lostOnes(e);
        written(e);
        state(e);
    }

    private static void days(Edges e) {
        e.edge(15, "n DAYS (1 to 60): how many HANG then. BAD.", """
            "leaf on 0 hold 99 sign 4; leaf on 0 hold 3 sign 5;" = 2  days(0) ! -1  days(61) ! -1  days(-1) ! -1  days(MIN) ! -1  days(MAX) ! -1
            state(0) = 0  days(1) = 1  state(0) = 1  days(23) = 1  of(0, 2) = 3  days(1) = 0  state(0) = 25  days(60) = 0  state(0) = 85
            days(59) = 0  state(0) = 144
            """, "days(60) = 0  state(0) = 60  days(61) ! -1  days(2) = 0  state(0) = 62");
        e.edge(15, "DAY is 1 more.", "state(0) = 0  days(1) = 0  state(0) = 1  day() = 0  state(0) = 2",
            // also when somebody falls, and when nobody hangs any more
            "leaf(0, 0, 0, 0) = 0  days(1) = 0  state(0) = 1  days(1) = 0  state(0) = 2");
    }

    private static void holds(Edges e) {
        String sentence = "A DAY: (1) of each that HANGS: HOLD is what it LOSES less (held to 0 to 99), by all as the DAY begins.";
        e.edge(15, sentence,
            // each loses 4: one keeps 1, one has just nothing left, one would have less than nothing
            "leaf(0, 0, 5, 0) = 0  leaf(0, 1, 4, 1) = 1  leaf(0, 2, 3, 2) = 2  days(1) = 2  of(0, 2) = 1  of(1, 2) = 0  of(2, 2) = 0  of(1, 4) = 1  of(2, 5) = 1",
            // seven mates: a yellow one gains 6
            "set(0, 0) = 2  sway(0, 0) = 1  leaf(2, 0, 92, 0) = 0  leaf(2, 0, 93, 0) = 1  leaf(2, 0, 94, 0) = 2  leaf(2, 0, 99, 0) = 3"
                + "  leaf(5, 0, 50, 0) = 4  leaf(5, 0, 50, 0) = 5  leaf(5, 0, 50, 0) = 6  leaf(5, 0, 50, 0) = 7"
                + "  days(1) = 8  of(0, 2) = 98  of(1, 2) = 99  of(2, 2) = 99  of(3, 2) = 99  of(4, 2) = 49",
            // one that has fallen loses nothing, and gains nothing
            "leaf(0, 0, 50, 0) = 0  leaf(2, 1, 50, 0) = 1  leaf(0, 1, 99, 0) = 2  leaf(0, 1, 99, 0) = 3  leaf(0, 1, 99, 0) = 4  leaf(0, 1, 99, 0) = 5"
                + "  leaf(0, 1, 99, 0) = 6  pluck(0) = 6  pluck(1) = 5  days(3) = 5  of(0, 2) = 50  of(1, 2) = 50  of(2, 2) = 87",
            // gaining lifts one up from nothing before anybody falls
            "leaf(2, 0, 0, 9) = 0  set(0, 0) = 2  sway(0, 0) = 1  leaf(0, 0, 9, 0) = 1  leaf(0, 0, 9, 0) = 2  days(1) = 3  of(0, 2) = 1");
        // mates that fall on a day still count on it
        e.edge(15, "by all as the DAY begins.",
            "set(0, 0) = 2  sway(0, 0) = 1  leaf(2, 0, 5, 0) = 0  leaf(0, 0, 1, 0) = 1  leaf(0, 0, 1, 0) = 2  leaf(2, 0, 98, 9) = 3"
                + "  days(1) = 3  of(0, 2) = 7  of(3, 2) = 99  of(1, 4) = 0  of(2, 4) = 1  days(1) = 2  of(0, 2) = 8  days(2) = 2  of(0, 2) = 8"
                + "  pluck(3) = 1  days(1) = 1  of(0, 2) = 7",
            // gold and evergreen by the day that begins, not by the next one
            "\"gold on 1 hold 50; evergreen on 2 hold 50; wet 5; wind 1;\" = 2  days(1) = 2  of(0, 2) = 42  of(1, 2) = 47  days(1) = 2  of(0, 2) = 39"
                + "  of(1, 2) = 47  days(1) = 2  of(0, 2) = 31  days(2) = 2  of(0, 2) = 20  of(1, 2) = 47  days(1) = 2  of(0, 2) = 17  of(1, 2) = 44");
    }

    private static void faller(Edges e) {
        String sentence = "(2) Of those that HANG and have a HOLD of 0 the one of greatest RANK, of several the least, has FALLEN, if there is one.";
        e.edge(15, sentence,
            // a hold of 1 stays
            "leaf(0, 0, 5, 9) = 0  days(1) = 1  of(0, 2) = 1  days(1) = 0",
            // nobody to fall
            "days(1) = 0  many(2) = 0  leaf(0, 0, 50, 0) = 0  days(1) = 1  many(2) = 0",
            // one a day, of equal ranks the least number
            "leaf(0, 0, 0, 3) = 0  leaf(0, 0, 0, 3) = 1  leaf(0, 0, 0, 3) = 2  days(1) = 2  of(0, 5) = 1  days(1) = 1  of(1, 5) = 2  days(1) = 0  of(2, 5) = 3",
            "leaf(0, 0, 0, 3) = 0  leaf(0, 0, 0, 4) = 1  leaf(0, 0, 0, 4) = 2  days(1) = 2  of(1, 5) = 1  days(1) = 1  of(2, 5) = 2",
            "leaf(0, 0, 0, 5) = 0  leaf(0, 0, 0, 4) = 1  days(1) = 1  of(0, 5) = 1",
            // ranks of several kinds: -1, 8, 8, 8, 12, 17, 20
            "leaf(5, 0, 0, 1) = 0  leaf(0, 0, 0, 8) = 1  leaf(2, 5, 0, 2) = 2  leaf(0, 0, 0, 8) = 3  leaf(1, 0, 0, 9) = 4  leaf(3, 5, 0, 9) = 5"
                + "  leaf(4, 5, 0, 0) = 6  set(0, 9) = 2  days(7) = 0  of(6, 5) = 1  of(5, 5) = 2  of(4, 5) = 3  of(1, 5) = 4  of(2, 5) = 5  of(3, 5) = 6  of(0, 5) = 7",
            // ranks below 0 fall, too: of 0, -1 and -9 the greatest first
            "leaf(5, 0, 0, 9) = 0  leaf(5, 0, 0, 1) = 1  leaf(5, 0, 0, 0) = 2  days(1) = 2  of(2, 5) = 1  days(1) = 1  of(1, 5) = 2  days(1) = 0",
            // one that has fallen with a hold of 0 doesn't fall once more
            "leaf(0, 0, 0, 9) = 0  leaf(0, 0, 50, 0) = 1  days(1) = 1  days(1) = 1  many(2) = 1  of(0, 5) = 1");
    }

    private static void seed(Edges e) {
        e.edge(16, "z becomes v: what it was.", """
            seed(5) = 1  seed(-7) = 5  seed(MIN) = -7  seed(MAX) = MIN  seed(0) = MAX  seed(0) = 0  seed(1) = 0
            """);
        e.edge(16, "DRAWS: z (an int; 1 at first) becomes z * 1103515245 + 12345; z >>> 16 is drawn.",
            // 1, 1103527590 (16838 is drawn: 2 of three), -1770082073 (38526: rests 26), both by day()
            "seed(1) = 1  leaf(0, 0, 50, 0) = 0  leaf(0, 0, 50, 0) = 1  leaf(0, 0, 50, 0) = 2  set(3, 27) = 20  day() = 3  of(0, 2) = 46  of(1, 2) = 46  of(2, 2) = 12"
                + "  seed(1) = -1770082073  set(3, 26) = 27  day() = 3  of(2, 2) = 8",
            "set(3, 0) = 20  leaf(0, 0, 50, 0) = 0  seed(0) = 1  day() = 1  seed(MAX) = " + after(after(0)) + "  day() = 1  seed(MIN) = " + after(after(Integer.MAX_VALUE))
                + "  day() = 1  seed(-1) = " + after(after(Integer.MIN_VALUE)) + "  day() = 1  seed(1) = " + after(after(-1)));
    }

    private static int after(int z) {
        return z * 1103515245 + 12345;
    }

    /** What is drawn for a leaf, and the rest by a hundred for a gale, from a z. */
    private static int who(int z, int count) {
        return (after(z) >>> 16) % count;
    }

    private static int rest(int z) {
        return (after(after(z)) >>> 16) % 100;
    }

    private static void dayWithoutLeaves(Edges e) {
        e.edge(17, "A DAY BY DRAWS: if there are LEAVES, a draw: the one that it leaves by how many there are; and one more:",
            // none: no draw; one: two draws, also if it has fallen
            "seed(5) = 1  day() = 0  state(0) = 1  seed(1) = 5",
            "seed(5) = 1  leaf(0, 0, 50, 0) = 0  day() = 1  seed(1) = " + after(after(5)),
            "seed(5) = 1  leaf(0, 0, 50, 0) = 0  pluck(0) = 0  day() = 0  state(0) = 1  seed(1) = " + after(after(5)));
        e.edge(17, "A DAY BY DRAWS: how many HANG then.",
            "set(3, 0) = 20  leaf(0, 0, 9, 0) = 0  leaf(0, 0, 5, 0) = 1  day() = 2  day() = 1  day() = 0  day() = 0  state(0) = 4");
    }

    private static void whoIsDrawn(Edges e) {
        for (int count = 1; count <= 8; count++) {
            for (int who = 0; who < count; who++) {
                int z = 1;
                // below 0, so that a shift with its sign would draw another one
                while (who(z, count) != who || rest(z) > 90 || after(z) >= 0 || after(after(z)) >= 0) {
                    z++;
                }
                StringBuilder script = new StringBuilder("set(3, 99) = 20 ");
                for (int i = 0; i < count; i++) {
                    script.append("leaf(0, ").append(i % 6).append(", 90, 0) = ").append(i).append(' ');
                }
                script.append("seed(").append(z).append(") = 1 day() = ").append(count);
                for (int i = 0; i < count; i++) {
                    script.append(" of(").append(i).append(", 2) = ").append(i == who ? 26 : 86);
                }
                e.edge(17, "the one that it leaves by how many there are", script.toString());
            }
        }
        // one that has fallen is drawn like others, and loses nothing on the day
        int z = 1;
        while (who(z, 2) != 0 || rest(z) > 90) {
            z++;
        }
        e.edge(17, "the one that it leaves by how many there are", "set(3, 99) = 20  leaf(0, 0, 50, 0) = 0  leaf(0, 0, 50, 0) = 1  pluck(0) = 1  seed(" + z
            + ") = 1  day() = 1  of(0, 2) = 16  of(1, 2) = 46");
    }

    private static void gales(Edges e) {
        for (int rest : new int[] {0, 1, 20, 50, 98, 99}) {
            int z = 1;
            while (rest(z) != rest || after(after(z)) >= 0) {
                z++;
            }
            String calm = "leaf(0, 0, 90, 0) = 0  seed(" + z + ") = 1  set(3, " + rest + ") = 20  day() = 1  of(0, 2) = 86  seed(1) = " + after(after(z));
            String gale = rest == 99 ? calm : "leaf(0, 0, 90, 0) = 0  seed(" + z + ") = 1  set(3, " + (rest + 1) + ") = 20  day() = 1  of(0, 2) = 26";
            e.edge(17, "if what that leaves by 100 is below GALE", calm, gale);
        }
    }

    private static void thirds(Edges e) {
        int z = 1;
        while (rest(z) > 90) {
            z++;
        }
        String gale = "seed(" + z + ") = 1  set(3, 99) = 20  set(0, 0) = 2  sway(0, 0) = 1  leaf(0, 0, ";
        e.edge(17, "HOLD of that one is a third (cut); then a DAY.",
            gale + "99, 0) = 0  day() = 1  of(0, 2) = 32", gale + "98, 0) = 0  day() = 1  of(0, 2) = 31", gale + "6, 0) = 0  day() = 1  of(0, 2) = 1",
            gale + "5, 0) = 0  day() = 0  of(0, 2) = 0", gale + "3, 0) = 0  day() = 0", gale + "2, 0) = 0  day() = 0", gale + "0, 0) = 0  day() = 0  of(0, 2) = 0");
        // the gale comes ahead of the day: a third of 10, less 1
        e.edge(17, "then a DAY.", gale + "10, 0) = 0  day() = 1  of(0, 2) = 2  state(0) = 1", gale + "4, 0) = 0  day() = 0  of(0, 2) = 0");
    }

    private static void lost(Edges e) {
        // nobody falls on the plain day; by draws one falls if there is a gale: a third of each is 4 at most
        String four = "\"leaf on 0 hold 10 sign 1; leaf on 0 hold 11 sign 2; leaf on 1 hold 12 sign 3; leaf on 2 hold 9 sign 4; gale 60;\" = 4  seed(99) = 1 ";
        StringBuilder script = new StringBuilder(four);
        int z = 99;
        int others = 0;
        for (int n = 1; n <= 30; n++) {
            others += rest(z) < 60 ? 1 : 0;
            z = after(after(z));
            script.append(" lost(").append(n).append(") ! ").append(others);
        }
        e.edge(18, "LOST (n 1 to 30). BAD.", script.toString(), four + "lost(0) ! -1  lost(31) ! -1  lost(-1) ! -1  lost(MIN) ! -1  lost(MAX) ! -1",
            "lost(0) ! -1  lost(31) ! -1  lost(1) ! 0  lost(30) ! 0");
    }

    private static void lostOnes(Edges e) {
        // one falls plainly; another one falls only when a gale takes the one of greater rank
        StringBuilder script = new StringBuilder("\"leaf on 0 hold 4 sign 1; leaf on 0 hold 12 sign 9; leaf on 0 hold 12 sign 0; gale 80;\" = 3 ");
        int z = 1;
        int others = 0;
        for (int n = 1; n <= 30; n++) {
            others += rest(z) < 80 && who(z, 3) == 1 ? 1 : 0;
            z = after(after(z));
            script.append(" lost(").append(n).append(") ! ").append(others);
        }
        e.edge(18, "LOST: in how many of n DAYS BY DRAWS, each tried from how all is now (z alone goes on), it is not the same one that FALLS as on a DAY"
            + " from there (or none on both); nothing changes, z neither.", script.toString(),
            "lost(30) ! 0", "\"leaf on 0 hold 99; gale 99;\" = 1  lost(30) ! 0", "\"leaf on 0 hold 4 sign 1; leaf on 0 hold 12 sign 9; gale 0;\" = 2  lost(30) ! 0");
    }

    private static void written(Edges e) {
        e.edge(19, "The i-th SIGN that is WRITTEN (from 0). NONE.", """
            written(0) ! -3  "leaf on 0 hold 4 sign 1; leaf on 0 hold 4 sign 9; leaf on 0 hold 40 sign 5;" = 3  written(0) ! -3  days(2) = 1
            written(0) ! 9  written(1) ! 1  written(2) ! -3  written(-1) ! -3  written(MAX) ! -3  written(MIN) ! -3
            """, """
            "leaf on 1;leaf on 1;leaf on 1;leaf on 1;leaf on 1;leaf on 1;leaf on 1;leaf on 2 sign 8;" = 8
            pluck(0) = 7  pluck(1) = 6  pluck(2) = 5  pluck(3) = 4  pluck(4) = 3  pluck(5) = 2  pluck(6) = 1  written(6) = 0  written(7) ! -3
            pluck(7) = 0  written(7) ! 8  written(8) ! -3
            """);
        e.edge(19, "WRITTEN: SIGNS of those that have FALLEN, in the order in which they fell.", """
            leaf(0, 0, 4, 1) = 0  leaf(0, 0, 50, 2) = 1  leaf(0, 0, 50, 3) = 2  pluck(2) = 2  days(1) = 1  pluck(1) = 0
            written(0) = 3  written(1) = 1  written(2) = 2  mind(0, 0, 7) = 0  written(1) = 7
            """);
    }

    private static void state(Edges e) {
        e.edge(20, "What = 0 DAY, 1 those that HANG, as a set, 2 HOLD of all that HANG together, 3 RHYMES, 4 SPELLED, 5 SWAY of all BOUGHS together. BAD.", """
            "leaf on 0 hold 11 sign 7; leaf on 0 hold 22 sign 7; leaf on 1 hold 33 sign 0; leaf on 1 hold 44 sign 7; sway 3 is 9;" = 4
            state(0) ! 0  state(1) ! 15  state(2) ! 110  state(3) ! 0  state(4) ! 0  state(5) ! 14  state(-1) ! -1  state(6) ! -1  state(MIN) ! -1  state(MAX) ! -1
            pluck(2) = 3  state(1) = 11  state(2) = 77  pluck(0) = 2  state(1) = 10  state(2) = 66  hold(0, 50) = 11  state(2) = 66  days(2) = 2  state(0) = 2
            """, """
            state(0) = 0  state(1) = 0  state(2) = 0  state(5) = 6  sway(0, 9) = 1  sway(1, 9) = 1  sway(2, 9) = 1  sway(3, 9) = 1  sway(4, 9) = 1  sway(5, 9) = 1
            state(5) = 54  sway(0, 0) = 9  state(5) = 45
            """,
            // eight leaves, and then fewer than there were: the others count no more
            "\"" + "leaf on 0 hold 99;".repeat(8) + "\" = 8  state(1) = 255  state(2) = 792  \"leaf on 1 hold 50;\" = 1  state(1) = 1  state(2) = 50  autumn() = 0  state(1) = 0  state(2) = 0");
        String four = "\"leaf on 0 sign 7; leaf on 0 sign 7; leaf on 1 sign 0; leaf on 1 sign 7; leaf on 0 sign 7;\" = 5 ";
        e.edge(20, "RHYMES: how many SIGNS that are WRITTEN are as the one written next ahead of it.",
            four + "state(3) = 0  pluck(0) = 4  state(3) = 0  pluck(1) = 3  state(3) = 1  pluck(2) = 2  state(3) = 1  pluck(3) = 1  state(3) = 1  pluck(4) = 0  state(3) = 2",
            // signs of 0 rhyme as well, and only with the next one ahead
            "\"leaf on 0; leaf on 0; leaf on 1 sign 1; leaf on 1;\" = 4  pluck(0) = 3  state(3) = 0  pluck(1) = 2  state(3) = 1  pluck(2) = 1  pluck(3) = 0  state(3) = 1");
        e.edge(20, "SPELLED: WRITTEN as a number by figures (of the first 8).",
            four + "state(4) = 0  pluck(2) = 4  state(4) = 0  pluck(0) = 3  state(4) = 7  pluck(3) = 2  state(4) = 77  mind(0, 0, 3) = 0  state(4) = 37",
            "\"" + "leaf on 0 sign 9;".repeat(8) + "\" = 8  days(10) = 0  state(4) = 99999999  state(3) = 7");
    }
}
