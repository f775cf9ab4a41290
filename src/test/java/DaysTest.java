/** Promises 15 to 20: days, days by draws, and what is written. */
public final class DaysTest {
    private static final Due DUE = new Due("DaysTest");

    public static void main(String[] args) {
        days();
        fallOrder();
        lossesBegin();
        seed();
        day();
        lost();
        written();
        state();
        DUE.close();
    }

    private static void days() {
        DUE.promise(15, "days");
        LeafFalls x = Due.told("leaf on 0 hold 10 sign 4; leaf on 0 hold 99 sign 5;");
        DUE.keeps("days(0)", x, () -> x.days(0), -1);
        DUE.keeps("days(-1)", x, () -> x.days(-1), -1);
        DUE.keeps("days(61)", x, () -> x.days(61), -1);
        DUE.due("days(2)", x.days(2), 2);
        DUE.due("of(0, 2)", x.of(0, 2), 2);
        DUE.due("of(1, 2)", x.of(1, 2), 91);
        DUE.due("state(0)", x.state(0), 2);
        // hold does not go below 0
        DUE.due("days(1)", x.days(1), 1);
        DUE.due("of(0, 2)", x.of(0, 2), 0);
        DUE.due("of(0, 5)", x.of(0, 5), 1);
        DUE.due("state(0)", x.state(0), 3);
        // 99 lasts 25 days at 4 a day
        DUE.due("days(21)", x.days(21), 1);
        DUE.due("of(1, 2)", x.of(1, 2), 3);
        DUE.due("days(1)", x.days(1), 0);
        DUE.due("days(60)", x.days(60), 0);
        DUE.due("state(0)", x.state(0), 85);
        // one that has fallen loses nothing any more
        DUE.due("hold(1, 50)", x.hold(1, 50), 0);
        DUE.due("days(5)", x.days(5), 0);
        DUE.due("of(1, 2)", x.of(1, 2), 50);
    }

    /** One a day falls: of greatest rank, of several the least number. */
    private static void fallOrder() {
        DUE.promise(15, "days");
        LeafFalls x = new LeafFalls();
        x.leaf(5, 0, 0, 1);
        x.leaf(0, 0, 0, 8);
        x.leaf(2, 5, 0, 2);
        x.leaf(0, 0, 0, 8);
        x.leaf(1, 0, 0, 9);
        x.leaf(3, 5, 0, 9);
        x.leaf(4, 5, 0, 0);
        x.set(0, 9);
        // ranks: -1, 8, 8, 8, 12, 17, 20
        int[] order = {6, 5, 4, 1, 2, 3, 0};
        for (int i = 0; i < 7; i++) {
            DUE.due("next()", x.next(), order[i]);
            DUE.due("days(1)", x.days(1), 6 - i);
            DUE.due("of(" + order[i] + ", 5)", x.of(order[i], 5), i + 1);
        }
        DUE.due("state(4)", x.state(4), 998281);
    }

    /** Mates count as the day begins: those that fall on it are still there. Gains are held to 99. */
    private static void lossesBegin() {
        DUE.promise(15, "days");
        LeafFalls x = new LeafFalls();
        x.set(0, 0);
        x.sway(0, 0);
        x.leaf(2, 0, 5, 0);
        x.leaf(0, 0, 1, 0);
        x.leaf(0, 0, 1, 0);
        x.leaf(2, 0, 98, 9);
        // yellow loses 1 less 3 mates: it gains 2
        DUE.due("days(1)", x.days(1), 3);
        DUE.due("of(0, 2)", x.of(0, 2), 7);
        DUE.due("of(3, 2)", x.of(3, 2), 99);
        DUE.due("of(1, 4)", x.of(1, 4), 0);
        DUE.due("of(2, 4)", x.of(2, 4), 1);
        // two mates: it gains 1
        DUE.due("days(1)", x.days(1), 2);
        DUE.due("of(0, 2)", x.of(0, 2), 8);
        DUE.due("days(1)", x.days(1), 2);
        DUE.due("of(0, 2)", x.of(0, 2), 8);
        DUE.due("days(1)", x.days(1), 2);
        DUE.due("pluck(3)", x.pluck(3), 1);
        DUE.due("days(1)", x.days(1), 1);
        DUE.due("of(0, 2)", x.of(0, 2), 7);

        // gold: wet on even days alone; evergreen: every fifth day alone
        LeafFalls y = Due.told("gold on 1 hold 50; evergreen on 2 hold 50; wet 5; wind 1;");
        int[] gold = {42, 39, 31, 28, 20, 17};
        int[] evergreen = {47, 47, 47, 47, 47, 44};
        for (int i = 0; i < 6; i++) {
            y.days(1);
            DUE.due("of(0, 2) behind " + (i + 1), y.of(0, 2), gold[i]);
            DUE.due("of(1, 2) behind " + (i + 1), y.of(1, 2), evergreen[i]);
        }
    }

    private static void seed() {
        DUE.promise(16, "seed");
        LeafFalls x = new LeafFalls();
        DUE.due("seed(5)", x.seed(5), 1);
        DUE.due("seed(-7)", x.seed(-7), 5);
        DUE.due("seed(min)", x.seed(Integer.MIN_VALUE), -7);
        DUE.due("seed(max)", x.seed(Integer.MAX_VALUE), Integer.MIN_VALUE);
        DUE.due("seed(0)", x.seed(0), Integer.MAX_VALUE);
    }

    private static int after(int z) {
        return z * 1103515245 + 12345;
    }

    private static void day() {
        DUE.promise(17, "day");
        LeafFalls x = new LeafFalls();
        DUE.due("day() of no leaves", x.day(), 0);
        DUE.due("seed(1): no leaves, no draw", x.seed(1), 1);
        DUE.due("state(0)", x.state(0), 1);

        // z 1 becomes 1103527590: 16838 is drawn, which leaves 2 by three
        LeafFalls w = Due.told("leaf on 0 hold 50; leaf on 1 hold 50; leaf on 2 hold 50; gale 99;");
        DUE.due("day()", w.day(), 3);
        DUE.due("of(0, 2)", w.of(0, 2), 46);
        DUE.due("of(1, 2)", w.of(1, 2), 46);
        DUE.due("of(2, 2)", w.of(2, 2), 12);
        for (int gale = 0; gale < 100; gale++) {
            for (int z = -3; z < 60; z += 7) {
                LeafFalls y = Due.told("leaf on 0 hold 50; leaf on 1 hold 41; leaf on 2 hold 33;");
                y.set(3, gale);
                y.seed(z);
                int one = after(z);
                int two = after(one);
                int blown = (one >>> 16) % 3;
                boolean gales = (two >>> 16) % 100 < gale;
                int[] holds = {50, 41, 33};
                if (gales) {
                    holds[blown] /= 3;
                }
                String call = "day() by z " + z + ", gale " + gale;
                DUE.due(call, y.day(), 3);
                for (int i = 0; i < 3; i++) {
                    DUE.due(call + ": hold of " + i, y.of(i, 2), holds[i] - 4);
                }
                DUE.due(call + ": z", y.seed(0), two);
                DUE.due(call + ": day", y.state(0), 1);
            }
        }

        // those that have fallen are among those drawn, and their hold is a third, too
        LeafFalls f = Due.told("leaf on 0 hold 50; leaf on 1 hold 41 sign 3; gale 99;");
        f.pluck(0);
        f.pluck(1);
        boolean[] blownOnce = new boolean[2];
        int z = 1;
        int[] holds = {50, 41};
        for (int i = 0; i < 6; i++) {
            int one = after(z);
            z = after(one);
            int blown = (one >>> 16) % 2;
            if ((z >>> 16) % 100 < 99) {
                holds[blown] /= 3;
                blownOnce[blown] = true;
            }
            DUE.due("day() with all fallen", f.day(), 0);
            DUE.due("of(0, 2)", f.of(0, 2), holds[0]);
            DUE.due("of(1, 2)", f.of(1, 2), holds[1]);
        }
        DUE.due("both were drawn", blownOnce[0] && blownOnce[1] ? 1 : 0, 1);

        // the draw goes by how many leaves there are
        for (int count = 1; count <= 8; count++) {
            LeafFalls c = new LeafFalls();
            c.set(3, 99);
            c.set(0, 0);
            c.sway(0, 0);
            for (int i = 0; i < count; i++) {
                c.leaf(0, 0, 90, 0);
            }
            c.seed(12 * count);
            int one = after(12 * count);
            c.day();
            int blown = (one >>> 16) % count;
            boolean gales = (after(one) >>> 16) % 100 < 99;
            for (int i = 0; i < count; i++) {
                DUE.due("of(" + i + ", 2) of " + count, c.of(i, 2), gales && i == blown ? 29 : 89);
            }
        }
    }

    private static void lost() {
        DUE.promise(18, "lost");
        LeafFalls x = Due.told("leaf on 0 hold 10 sign 1; leaf on 0 hold 11 sign 2; leaf on 1 hold 12 sign 3; leaf on 2 hold 9 sign 4; gale 60;");
        x.seed(99);
        DUE.keeps("lost(0)", x, () -> x.lost(0), -1);
        DUE.keeps("lost(-1)", x, () -> x.lost(-1), -1);
        DUE.keeps("lost(31)", x, () -> x.lost(31), -1);
        // nobody falls on the plain day; by draws one falls if a gale takes it: a third of each is 4 at most
        int z = 99;
        int others = 0;
        for (int n = 1; n <= 30; n++) {
            int one = after(z);
            z = after(one);
            if ((z >>> 16) % 100 < 60) {
                others++;
            }
            int want = others;
            int m = n;
            DUE.keeps("lost(" + n + ")", x, () -> x.lost(m), want);
        }
        DUE.due("some were lost, some not", others > 0 && others < 30 ? 1 : 0, 1);

        // one falls plainly; another one falls when the gale takes one of greater rank
        LeafFalls y = Due.told("leaf on 0 hold 4 sign 1; leaf on 0 hold 12 sign 9; leaf on 0 hold 12 sign 0; gale 80;");
        z = 1;
        others = 0;
        for (int n = 1; n <= 30; n++) {
            int one = after(z);
            z = after(one);
            if ((z >>> 16) % 100 < 80 && (one >>> 16) % 3 == 1) {
                others++;
            }
            int want = others;
            int m = n;
            DUE.keeps("lost(" + n + ") of another", y, () -> y.lost(m), want);
        }
        DUE.due("some were lost, some not", others > 0 && others < 30 ? 1 : 0, 1);
        DUE.due("lost(30) of no leaves", new LeafFalls().lost(30), 0);
        LeafFalls calm = Due.told("leaf on 0 hold 4 sign 1; leaf on 0 hold 12 sign 9; gale 0;");
        DUE.due("lost(30) without gales", calm.lost(30), 0);
    }

    private static void written() {
        DUE.promise(19, "written");
        LeafFalls x = Due.told("leaf on 0 hold 4 sign 1; leaf on 0 hold 4 sign 9; leaf on 0 hold 40 sign 5;");
        DUE.due("written(0)", () -> x.written(0), -3);
        x.days(2);
        DUE.due("written(0)", x.written(0), 9);
        DUE.due("written(1)", x.written(1), 1);
        DUE.due("written(2)", () -> x.written(2), -3);
        DUE.due("written(-1)", () -> x.written(-1), -3);
        DUE.due("written(max)", () -> x.written(Integer.MAX_VALUE), -3);
        DUE.due("written(min)", () -> x.written(Integer.MIN_VALUE), -3);
    }

    private static void state() {
        DUE.promise(20, "state");
        LeafFalls x = Due.told("leaf on 0 hold 11 sign 7; leaf on 0 hold 22 sign 7; leaf on 1 hold 33 sign 0; leaf on 1 hold 44 sign 7;"
                + "leaf on 2 hold 1 sign 7; sway 3 is 9;");
        DUE.due("state(0)", x.state(0), 0);
        DUE.due("state(1)", x.state(1), 31);
        DUE.due("state(2)", x.state(2), 111);
        DUE.due("state(3)", x.state(3), 0);
        DUE.due("state(4)", x.state(4), 0);
        DUE.due("state(5)", x.state(5), 14);
        x.pluck(2);
        DUE.due("state(1)", x.state(1), 27);
        DUE.due("state(2)", x.state(2), 78);
        DUE.due("state(3)", x.state(3), 0);
        DUE.due("state(4)", x.state(4), 0);
        x.pluck(3);
        DUE.due("state(3)", x.state(3), 0);
        DUE.due("state(4)", x.state(4), 7);
        x.pluck(0);
        DUE.due("state(3)", x.state(3), 1);
        x.pluck(4);
        DUE.due("state(3)", x.state(3), 2);
        DUE.due("state(4)", x.state(4), 777);
        x.mind(0, 0, 3);
        DUE.due("state(3)", x.state(3), 0);
        DUE.due("state(4)", x.state(4), 737);
        DUE.due("state(-1)", () -> x.state(-1), -1);
        DUE.due("state(6)", () -> x.state(6), -1);
        LeafFalls y = new LeafFalls();
        for (int i = 0; i < 8; i++) {
            y.leaf(0, 0, 99, 9);
            y.pluck(i);
        }
        DUE.due("state(4) of eight nines", y.state(4), 99999999);
        DUE.due("state(3) of eight nines", y.state(3), 7);
    }
}
