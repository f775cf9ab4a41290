/** Promises 42 to 46: acts and the trace, how many, what is kept. */
final class ActsEdges {
    static void play(Edges e) {
        bodies(e);
        underBodies(e);
        wraps(e);
        partedByZero(e);
        act(e);
        trace(e);
        many(e);
        manyRefused(e);
        keep(e);
        again(e);
        lastCall(e);
    }

    /** A thing of a kind with a number and a sign, on shelf 2. */
    private static String thing(int kind, int number, int sign) {
        StringBuilder thing = new StringBuilder();
        for (int i = 0; i <= number; i++) {
            thing.append("leaf(").append(kind).append(", 0, 50, ").append(sign).append(") = ").append(i).append(' ');
        }
        return thing + "shelf(2, 0, " + number + ") = 1 ";
    }

    /** An act, its answer and all of its trace. */
    private static String acts(int act, int x, int want, int... bodies) {
        StringBuilder acts = new StringBuilder("act(2, " + act + ", " + x + ") = " + want + " many(6) = " + bodies.length);
        for (int i = 0; i < bodies.length; i++) {
            acts.append(" trace(").append(i).append(") = ").append(bodies[i]);
        }
        return acts + " trace(" + bodies.length + ") = -3 ";
    }

    private static void bodies(Edges e) {
        e.edge(42, "BODIES, each with its number: leaf: 10 turns: x * 2 + n * 5.", thing(0, 0, 4) + acts(0, -7, -14, 10), thing(0, 7, 9) + acts(0, 3, 41, 10) + acts(0, 0, 35, 10));
        e.edge(42, "11 names: turns(x) - a.", thing(0, 0, 4) + acts(1, -7, -18, 11, 10), thing(0, 7, 9) + acts(1, 3, 32, 11, 10));
        e.edge(42, "12 parts: x by (a - n), cut (-15 if these are the same; that is all that act() answers then).",
            thing(0, 0, 4) + acts(2, -7, -1, 12) + acts(2, -4, -1, 12) + acts(2, -3, 0, 12) + acts(2, 3, 0, 12) + acts(2, 8, 2, 12),
            thing(0, 7, 9) + acts(2, 9, 4, 12) + acts(2, -9, -4, 12), thing(0, 4, 3) + acts(2, 9, -9, 12), thing(0, 4, 5) + acts(2, 9, 9, 12), thing(0, 4, 4) + acts(2, 9, -15, 12));
        e.edge(42, "13 lands: names(x) ^ 20.", thing(0, 0, 4) + acts(3, -7, -6, 13, 11, 10), thing(0, 7, 9) + acts(3, 3, 32 ^ 20, 13, 11, 10));
    }

    private static void underBodies(Edges e) {
        e.edge(42, "red: 20 names: super.names(x) + 7.",
            thing(1, 3, 9) + acts(0, -1, 13, 10) + acts(1, -1, 11, 20, 11, 10) + acts(2, -1, 0, 12) + acts(2, -13, -2, 12) + acts(3, -1, 31, 13, 20, 11, 10));
        e.edge(42, "yellow: 30 turns: super.turns(x) ^ 1. 31 lands: super.lands(x) - parts(n).",
            thing(2, 4, 0) + acts(0, 10, 41, 30, 10) + acts(1, 10, 41, 11, 30, 10) + acts(2, 10, -2, 12) + acts(3, 10, 62, 31, 13, 11, 30, 10, 12));
        // lands of the second: names(1) = (52 - 2) - turns(2) = 50 - 56 = -6; -6 ^ 20 = -18; parts(5) = 5 / -3 = -1
        e.edge(42, "gold: 40 turns: super.turns(x) * 2. 41 names: super.names(x) - turns(a).",
            thing(4, 1, 3) + acts(0, 5, 28, 40, 30, 10) + acts(1, 5, 5, 41, 11, 40, 30, 10, 40, 30, 10) + acts(2, 5, 2, 12)
                + acts(3, 5, 17, 31, 13, 41, 11, 40, 30, 10, 40, 30, 10, 12),
            thing(4, 5, 2) + acts(3, 1, -17, 31, 13, 41, 11, 40, 30, 10, 40, 30, 10, 12));
        e.edge(42, "scarlet: 50 parts: 0 - super.parts(x + 3). 51 turns: super.turns(x) + a.",
            thing(3, 2, 5) + acts(0, 7, 29, 51, 10) + acts(1, 7, 31, 20, 11, 51, 10) + acts(2, 7, -3, 50, 12) + acts(2, -3, 0, 50, 12) + acts(3, 7, 11, 13, 20, 11, 51, 10));
        e.edge(42, "evergreen: 60 lands: super.lands(x) ^ x. 61 parts: super.parts(x) + turns(n).",
            thing(5, 5, 8) + acts(0, 100, 225, 10) + acts(1, 100, 217, 11, 10) + acts(2, 100, 68, 61, 12, 10) + acts(3, 100, 169, 60, 13, 11, 10));
    }

    private static void wraps(Edges e) {
        int max = Integer.MAX_VALUE;
        int min = Integer.MIN_VALUE;
        e.edge(42, "ACTS of things, with a number x (ints that wrap): 0 turns, 1 names, 2 parts, 3 lands. One of the LEAVES is held as a thing of the KIND; n: the number, a: SIGN.",
            thing(0, 1, 0) + acts(0, max, 3, 10) + acts(0, min, 5, 10) + acts(2, min, min, 12) + acts(2, max, -max, 12),
            thing(3, 0, 1) + acts(2, max, -(min + 2), 50, 12), thing(3, 1, 0) + acts(2, min - 3, min, 50, 12) + acts(2, max - 3, max, 50, 12) + acts(2, max - 2, min, 50, 12),
            thing(4, 0, 0) + acts(0, max, -2, 40, 30, 10) + acts(0, 1 << 29, -2147483646, 40, 30, 10),
            // the kind and the sign are those of the time
            thing(0, 2, 5) + acts(1, 1, 7, 11, 10) + "mind(2, 1, 6) = 0 " + acts(1, 1, 13, 20, 11, 10));
        e.edge(42, "Quotients are cut towards 0.",
            thing(0, 0, 2) + acts(2, 1, 0, 12) + acts(2, -1, 0, 12) + acts(2, 3, 1, 12) + acts(2, -3, -1, 12), thing(0, 2, 0) + acts(2, 3, -1, 12) + acts(2, -3, 1, 12));
    }

    private static void partedByZero(Edges e) {
        String sentence = "(-15 if these are the same; that is all that act() answers then)";
        e.edge(42, sentence,
            thing(0, 3, 3) + acts(2, 7, -15, 12) + acts(0, 7, 29, 10) + acts(3, 7, 26 ^ 20, 13, 11, 10) + acts(2, 0, -15, 12), thing(0, 0, 0) + acts(2, 7, -15, 12),
            // from within another body too; what would begin behind the parting does not
            thing(2, 1, 1) + acts(3, 7, -15, 31, 13, 11, 30, 10, 12) + acts(0, 7, 18, 30, 10), thing(3, 1, 1) + acts(2, 7, -15, 50, 12),
            thing(4, 0, 0) + acts(3, 7, -15, 31, 13, 41, 11, 40, 30, 10, 40, 30, 10, 12),
            thing(5, 2, 2) + acts(2, 7, -15, 61, 12) + acts(3, 7, ((14 + 10 - 2) ^ 20) ^ 7, 60, 13, 11, 10) + "mind(2, 5, 3) = 5 " + acts(2, 7, 7 + 14, 61, 12, 10));
    }

    private static void act(Edges e) {
        String ran = "act(2, 0, 1) = 7  many(6) = 1 ";
        String none = " many(6) = 0  trace(0) = -3 ";
        e.edge(42, "An ACT (0 to 3) of the thing on a SHELF, with x. 0, and no TRACE then: no such SHELF, act, nothing, a row.",
            thing(0, 1, 5) + ran + "act(-1, 0, 5) = 0" + none + ran + "act(4, 0, 5) = 0" + none + ran + "act(MIN, 0, 5) = 0" + none + ran + "act(MAX, 0, 5) = 0" + none,
            thing(0, 1, 5) + ran + "act(2, -1, 5) = 0" + none + ran + "act(2, 4, 5) = 0" + none + ran + "act(2, MIN, 5) = 0" + none + ran + "act(2, MAX, 5) = 0" + none,
            thing(0, 1, 5) + ran + "act(0, 0, 5) = 0" + none + "sheet(0, 0, 4) = 1  shelf(1, 1, 0) = 1 " + ran + "act(1, 0, 5) = 0" + none + ran + "shelf(2, 2, 0) = 1  act(2, 0, 5) = 0" + none,
            // nothing, if there is no such one at the time; one that has fallen acts on
            thing(0, 1, 5) + ran + "\"leaf on 0;\" = 1  act(2, 0, 5) = 0" + none + "shelf(3, 0, 0) = 1  pluck(0) = 0  act(3, 0, 4) = 8  act(3, 0, 0) = 0  many(6) = 1",
            // every shelf, and every act
            thing(0, 3, 5) + "shelf(0, 0, 0) = 1  shelf(1, 0, 1) = 1  shelf(3, 0, 3) = 1  act(0, 0, 3) = 6  act(1, 0, 3) = 11  act(2, 0, 3) = 21  act(3, 0, 3) = 21"
                + "  act(3, 1, 3) = 16  act(3, 2, 9) = 4  act(3, 3, 3) = 4");
        e.edge(42, "one of the LEAVES (by its number; nothing, if there is no such one at the time)",
            thing(0, 1, 5) + "\"leaf on 0;\" = 1  act(2, 0, 5) = 0  leaf(0, 0, 9, 0) = 1  act(2, 0, 5) = 15");
    }

    private static void trace(Edges e) {
        e.edge(43, "THE TRACE's i-th body. NONE.",
            thing(4, 1, 3) + "trace(0) ! -3  act(2, 3, 5) = 17  many(6) = 11  trace(10) ! 12  trace(11) ! -3  trace(-1) ! -3  trace(MAX) ! -3  trace(MIN) ! -3"
                + "  trace(29) ! -3  trace(30) ! -3  trace(31) ! -3");
        // gold lands runs the most bodies: eleven of the thirty
        e.edge(43, "THE TRACE: numbers of the bodies that ran in the latest act(), as they began (left first); the first 30 are kept.",
            thing(4, 1, 3) + acts(3, 5, 17, 31, 13, 41, 11, 40, 30, 10, 40, 30, 10, 12) + acts(0, 5, 28, 40, 30, 10) + "taken(2, 0) = 1  days(3) = 2  trace(0) = 40  keep() = 1  again() = 2  many(6) = 3",
            thing(5, 5, 8) + acts(2, 100, 68, 61, 12, 10), thing(2, 4, 0) + acts(3, 10, 62, 31, 13, 11, 30, 10, 12));
    }

    private static void many(Edges e) {
        e.edge(44, "How many: what = 0 LEAVES, 1 those that HANG, 2 those that have FALLEN, 3 BOUGHS with one that HANGS, 4 ROWS, 5 bytes of THE TAPE,"
            + " 6 bodies of THE TRACE (those kept, 30 at most). BAD: another what.", """
            "leaf on 0; leaf on 0; leaf on 3; leaf on 5; gold on 5 sign 3; scarlet on 4 hold 3; scarlet on 4 hold 3;" = 7
            many(0) ! 7  many(1) ! 7  many(2) ! 0  many(3) ! 4  pluck(2) = 6  many(0) ! 7  many(1) ! 6  many(2) ! 1  many(3) ! 3  pluck(0) = 5  many(3) ! 3  pluck(1) = 4  many(3) ! 2
            prove(3, 7) = 7  feed(32, 1) = 1  feed(32, 8) = 9  shelf(0, 0, 4) = 1  act(0, 1, 1) = -11  many(4) ! 7  many(5) ! 9  many(6) ! 8
            """, """
            "leaf on 0;leaf on 1;leaf on 2;leaf on 3;leaf on 4;leaf on 5;leaf on 0;leaf on 1;" = 8  many(0) = 8  many(1) = 8  many(3) = 6  days(60) = 0
            many(0) = 8  many(1) = 0  many(2) = 8  many(3) = 0
            """);
    }

    private static void manyRefused(Edges e) {
        e.edge(44, "BAD: another what.", "many(-1) ! -1  many(7) ! -1  many(MAX) ! -1  many(MIN) ! -1  many(0) ! 0  many(6) ! 0");
    }

    private static final String TREE = """
        "leaf on 1 hold 30 sign 4; gold on 2 hold 5 sign 3; red on 1 hold 1; wind 3; cold 4; wet 5; gale 6; sway 1 is 7;" = 3  days(1) = 2  seed(55) = 1
        """;
    private static final String IS_TREE = """
        many(0) = 3  of(0, 0) = 0  of(0, 1) = 1  of(0, 2) = 19  of(0, 3) = 4  of(0, 4) = 1  of(1, 0) = 4  of(1, 2) = 0  of(1, 5) = 1  of(2, 2) = 0  of(2, 5) = 0  of(2, 4) = 1
        lawOf(0) = 3  lawOf(1) = 4  lawOf(2) = 5  lawOf(3) = 6  bough(1, 0) = 7  bough(2, 0) = 1  state(0) = 1  state(4) = 3  seed(55) = 55
        """;
    private static final String CHANGES = """
        leaf(1, 1, 1, 1) = 3  days(20) = 0  set(0, 1) = 3  set(1, 1) = 4  set(2, 1) = 5  set(3, 1) = 6  sway(1, 1) = 7  sway(2, 9) = 1  mind(0, 3, 9) = 0  move(0, 5) = 1
        hold(0, 50) = 0  seed(1) = 55
        """;

    private static void keep(Edges e) {
        e.edge(45, "All but THE TAPE, ROWS, SHEETS, SHELVES, THE TRACE is kept: 1.",
            TREE + "keep() = 1 " + CHANGES + "again() = 3 " + IS_TREE,
            TREE + "keep() = 1  prove(0, 4) = 4  feed(32, 3) = 3  sheet(1, 2, 3) = 1  put(1, 2, 8) = 1  shelf(1, 1, 1) = 1  shelf(0, 0, 0) = 1  act(0, 0, 1) = 2  again() = 3"
                + "  many(4) = 4  many(5) = 3  many(6) = 1  item(1, 2, 2) = 8  taken(0, 0) = 0  taken(1, 12) = 3",
            "keep() = 1  leaf(0, 0, 0, 0) = 0  again() = 0  many(0) = 0");
    }

    private static void again(Edges e) {
        e.edge(46, "It becomes what was kept latest (which stays): how many LEAVES. NONE: nothing is kept.",
            TREE + "again() ! -3", "again() ! -3  keep() = 1  again() ! 0",
            // it stays, whatever comes, and whatever is tried
            TREE + "keep() = 1 " + CHANGES + "again() = 3  days(9) = 0  hold(0, 1) = 0  lost(30) = 0  tiedFor(0, 9) = -3  again() = 3 " + IS_TREE,
            TREE + "keep() = 1  \"red on 1;\" = 1  again() = 3 " + IS_TREE,
            // only what was kept latest
            TREE + "keep() = 1  pluck(0) = 1  keep() = 1  pluck(2) = 0  again() = 3  of(0, 4) = 0  of(2, 4) = 1",
            "\"" + "leaf on 0;".repeat(8) + "\" = 8  keep() = 1  autumn() = 0  again() = 8  leaf(0, 0, 0, 0) ! -2");
    }

    /** The 512th call of an object answers as the first one does. */
    private static void lastCall(Edges e) {
        e.edge(15, "An object is used for at most 512 calls after it has been made", "leaf(5, 0, 99, 7) = 0 " + "days(60) = 1 ".repeat(2) + "days(60) = 0 ".repeat(508) + "state(0) = 30600");
    }
}
