/** Promises 4 to 14: laws, leaves and boughs. */
public final class LeavesTest {
    private static final Due DUE = new Due("LeavesTest");
    private static final int MIN = Integer.MIN_VALUE;
    private static final int MAX = Integer.MAX_VALUE;

    public static void main(String[] args) {
        laws();
        leaf();
        of();
        loses();
        rank();
        mind();
        hold();
        move();
        pluck();
        bough();
        sway();
        DUE.close();
    }

    private static void laws() {
        DUE.promise(4, "set");
        LeafFalls x = new LeafFalls();
        int[] first = {2, 1, 1, 20};
        int[] most = {9, 9, 9, 99};
        for (int law = 0; law < 4; law++) {
            int l = law;
            DUE.due("set(" + l + ", most)", x.set(l, most[l]), first[l]);
            DUE.due("lawOf(" + l + ")", x.lawOf(l), most[l]);
            DUE.keeps("set(" + l + ", most + 1)", x, () -> x.set(l, most[l] + 1), -1);
            DUE.keeps("set(" + l + ", -1)", x, () -> x.set(l, -1), -1);
            DUE.due("set(" + l + ", 0)", x.set(l, 0), most[l]);
            DUE.due("lawOf(" + l + ")", x.lawOf(l), 0);
            DUE.due("set(" + l + ", 5)", x.set(l, 5), 0);
        }
        DUE.keeps("set(-1, 0)", x, () -> x.set(-1, 0), -1);
        DUE.keeps("set(4, 0)", x, () -> x.set(4, 0), -1);
        DUE.keeps("set(min, 0)", x, () -> x.set(MIN, 0), -1);
        DUE.keeps("set(max, 0)", x, () -> x.set(MAX, 0), -1);
        DUE.promise(5, "lawOf");
        DUE.due("lawOf(-1)", () -> x.lawOf(-1), -1);
        DUE.due("lawOf(4)", () -> x.lawOf(4), -1);
        DUE.due("lawOf(max)", () -> x.lawOf(MAX), -1);
        DUE.due("lawOf(3)", x.lawOf(3), 5);
    }

    private static void leaf() {
        DUE.promise(6, "leaf");
        LeafFalls x = new LeafFalls();
        DUE.keeps("leaf(-1, 0, 0, 0)", x, () -> x.leaf(-1, 0, 0, 0), -1);
        DUE.keeps("leaf(6, 0, 0, 0)", x, () -> x.leaf(6, 0, 0, 0), -1);
        DUE.keeps("leaf(0, -1, 0, 0)", x, () -> x.leaf(0, -1, 0, 0), -1);
        DUE.keeps("leaf(0, 6, 0, 0)", x, () -> x.leaf(0, 6, 0, 0), -1);
        DUE.keeps("leaf(0, 0, -1, 0)", x, () -> x.leaf(0, 0, -1, 0), -1);
        DUE.keeps("leaf(0, 0, 100, 0)", x, () -> x.leaf(0, 0, 100, 0), -1);
        DUE.keeps("leaf(0, 0, 0, -1)", x, () -> x.leaf(0, 0, 0, -1), -1);
        DUE.keeps("leaf(0, 0, 0, 10)", x, () -> x.leaf(0, 0, 0, 10), -1);
        DUE.due("leaf(0, 0, 0, 0)", x.leaf(0, 0, 0, 0), 0);
        DUE.due("leaf(5, 5, 99, 9)", x.leaf(5, 5, 99, 9), 1);
        DUE.due("pluck(0)", x.pluck(0), 1);
        for (int i = 2; i < 8; i++) {
            DUE.due("leaf(1, 2, 3, 4)", x.leaf(1, 2, 3, 4), i);
        }
        DUE.keeps("leaf(1, 2, 3, 4) of a ninth", x, () -> x.leaf(1, 2, 3, 4), -2);
        DUE.keeps("leaf(6, 2, 3, 4) of a ninth", x, () -> x.leaf(6, 2, 3, 4), -1);
        DUE.keeps("leaf(1, 6, 3, 4) of a ninth", x, () -> x.leaf(1, 6, 3, 4), -1);
        DUE.keeps("leaf(1, 2, 100, 4) of a ninth", x, () -> x.leaf(1, 2, 100, 4), -1);
        DUE.keeps("leaf(1, 2, 3, 10) of a ninth", x, () -> x.leaf(1, 2, 3, 10), -1);
        DUE.due("many(0)", x.many(0), 8);
        DUE.due("many(1)", x.many(1), 7);
    }

    private static void of() {
        DUE.promise(7, "of");
        LeafFalls x = new LeafFalls();
        x.leaf(3, 2, 50, 7);
        x.leaf(4, 2, 40, 6);
        x.leaf(1, 2, 30, 5);
        x.leaf(1, 1, 30, 5);
        int[] want = {3, 2, 50, 7, 1, 0, 2};
        for (int what = 0; what < 7; what++) {
            DUE.due("of(0, " + what + ")", x.of(0, what), want[what]);
        }
        x.pluck(1);
        x.pluck(0);
        DUE.due("of(1, 4)", x.of(1, 4), 0);
        DUE.due("of(1, 5)", x.of(1, 5), 1);
        DUE.due("of(0, 5)", x.of(0, 5), 2);
        DUE.due("of(2, 5)", x.of(2, 5), 0);
        // mates are others that hang, for one that has fallen too
        DUE.due("of(0, 6)", x.of(0, 6), 1);
        DUE.due("of(1, 6)", x.of(1, 6), 1);
        DUE.due("of(2, 6)", x.of(2, 6), 0);
        DUE.due("of(3, 6)", x.of(3, 6), 0);
        DUE.due("of(0, 2)", x.of(0, 2), 50);
        DUE.due("of(0, -1)", () -> x.of(0, -1), -1);
        DUE.due("of(0, 7)", () -> x.of(0, 7), -1);
        DUE.due("of(4, 0)", () -> x.of(4, 0), -1);
        DUE.due("of(8, 0)", () -> x.of(8, 0), -1);
        DUE.due("of(-1, 0)", () -> x.of(-1, 0), -1);
        DUE.due("of(min, 0)", () -> x.of(MIN, 0), -1);
    }

    private static void loses() {
        DUE.promise(8, "does");
        LeafFalls x = new LeafFalls();
        x.set(0, 3);
        x.set(1, 5);
        x.set(2, 7);
        x.sway(2, 4);
        for (int kind = 0; kind < 6; kind++) {
            x.leaf(kind, 2, 99, 6);
        }
        // as leaf: 1 + 3 + 4 = 8; five mates
        int[] even = {8, 13, 3, 26, 10, 8};
        for (int i = 0; i < 6; i++) {
            DUE.due("does(" + i + ", 0) on day 0", x.does(i, 0), 1000 + even[i]);
        }
        x.days(1);
        int[] odd = {8, 13, 3, 26, 3, 0};
        for (int i = 0; i < 6; i++) {
            DUE.due("does(" + i + ", 0) on day 1", x.does(i, 0), 1000 + odd[i]);
        }
        x.days(1);
        DUE.due("does(4, 0) on day 2", x.does(4, 0), 1010);
        DUE.due("does(5, 0) on day 2", x.does(5, 0), 1000);
        x.days(3);
        DUE.due("does(4, 0) on day 5", x.does(4, 0), 1004);
        DUE.due("does(5, 0) on day 5", x.does(5, 0), 1008);
        // one that has fallen loses as if it hung, and is nobody's mate
        x.pluck(2);
        DUE.due("does(2, 0) fallen", x.does(2, 0), 1008 - x.of(2, 6));
        x.set(0, 0);
        x.sway(2, 0);
        LeafFalls y = new LeafFalls();
        y.set(0, 0);
        y.sway(0, 0);
        for (int i = 0; i < 8; i++) {
            y.leaf(2, 0, 1, 1);
        }
        DUE.due("does(0, 0) of seven mates", y.does(0, 0), 1000 + 1 - 7);
        y.move(7, 1);
        DUE.due("does(0, 0) of six mates", y.does(0, 0), 1000 + 1 - 6);
        DUE.due("does(7, 0) of no mates", y.does(7, 0), 1000 + 2);
        DUE.due("does(8, 0)", () -> y.does(8, 0), -1);
        DUE.due("does(-1, 0)", () -> y.does(-1, 0), -1);
        DUE.due("does(0, 2)", () -> y.does(0, 2), -1);
        DUE.due("does(0, -1)", () -> y.does(0, -1), -1);
    }

    private static void rank() {
        DUE.promise(8, "does");
        LeafFalls x = new LeafFalls();
        for (int kind = 0; kind < 6; kind++) {
            x.leaf(kind, 4, 99, 6);
        }
        int[] want = {6, 9, 4, 13, 8, -6};
        for (int i = 0; i < 6; i++) {
            DUE.due("does(" + i + ", 1)", x.does(i, 1), 1000 + want[i]);
        }
        x.move(3, 0);
        DUE.due("does(3, 1) on bough 0", x.does(3, 1), 1009);
        x.pluck(3);
        DUE.due("does(3, 1) fallen", x.does(3, 1), 1009);
    }

    private static void mind() {
        DUE.promise(9, "mind");
        LeafFalls x = new LeafFalls();
        x.leaf(3, 2, 50, 7);
        DUE.due("mind(0, 5, 9)", x.mind(0, 5, 9), 3);
        DUE.due("of(0, 0)", x.of(0, 0), 5);
        DUE.due("of(0, 3)", x.of(0, 3), 9);
        DUE.due("of(0, 2)", x.of(0, 2), 50);
        DUE.due("mind(0, 0, 0)", x.mind(0, 0, 0), 5);
        DUE.keeps("mind(0, 6, 0)", x, () -> x.mind(0, 6, 0), -1);
        DUE.keeps("mind(0, -1, 0)", x, () -> x.mind(0, -1, 0), -1);
        DUE.keeps("mind(0, 1, 10)", x, () -> x.mind(0, 1, 10), -1);
        DUE.keeps("mind(0, 1, -1)", x, () -> x.mind(0, 1, -1), -1);
        DUE.keeps("mind(1, 1, 1)", x, () -> x.mind(1, 1, 1), -1);
        DUE.keeps("mind(-1, 1, 1)", x, () -> x.mind(-1, 1, 1), -1);
        x.pluck(0);
        DUE.due("mind(0, 4, 8) of one that has fallen", x.mind(0, 4, 8), 0);
        DUE.due("of(0, 5)", x.of(0, 5), 1);
        DUE.due("written(0)", x.written(0), 8);
    }

    private static void hold() {
        DUE.promise(10, "hold");
        LeafFalls x = new LeafFalls();
        x.leaf(3, 2, 50, 7);
        DUE.due("hold(0, 99)", x.hold(0, 99), 50);
        DUE.due("of(0, 2)", x.of(0, 2), 99);
        DUE.due("hold(0, 0)", x.hold(0, 0), 99);
        DUE.due("of(0, 4)", x.of(0, 4), 1);
        DUE.keeps("hold(0, 100)", x, () -> x.hold(0, 100), -1);
        DUE.keeps("hold(0, -1)", x, () -> x.hold(0, -1), -1);
        DUE.keeps("hold(1, 0)", x, () -> x.hold(1, 0), -1);
        DUE.keeps("hold(-1, 0)", x, () -> x.hold(-1, 0), -1);
        x.pluck(0);
        DUE.due("hold(0, 7) of one that has fallen", x.hold(0, 7), 0);
        DUE.due("of(0, 2)", x.of(0, 2), 7);
        DUE.due("of(0, 4)", x.of(0, 4), 0);
    }

    private static void move() {
        DUE.promise(11, "move");
        LeafFalls x = new LeafFalls();
        x.leaf(3, 2, 50, 7);
        DUE.due("move(0, 5)", x.move(0, 5), 2);
        DUE.due("of(0, 1)", x.of(0, 1), 5);
        DUE.due("bough(5, 1)", x.bough(5, 1), 1);
        DUE.due("bough(2, 1)", x.bough(2, 1), 0);
        DUE.due("move(0, 0)", x.move(0, 0), 5);
        DUE.keeps("move(0, 6)", x, () -> x.move(0, 6), -1);
        DUE.keeps("move(0, -1)", x, () -> x.move(0, -1), -1);
        DUE.keeps("move(1, 0)", x, () -> x.move(1, 0), -1);
        DUE.keeps("move(-1, 0)", x, () -> x.move(-1, 0), -1);
        x.pluck(0);
        DUE.due("move(0, 3) of one that has fallen", x.move(0, 3), 0);
        DUE.due("of(0, 1)", x.of(0, 1), 3);
    }

    private static void pluck() {
        DUE.promise(12, "pluck");
        LeafFalls x = Due.told("leaf on 0 hold 9 sign 4; leaf on 0 hold 9 sign 5; leaf on 1 hold 9 sign 6;");
        DUE.due("pluck(2)", x.pluck(2), 2);
        DUE.due("of(2, 5)", x.of(2, 5), 1);
        DUE.due("of(2, 4)", x.of(2, 4), 0);
        DUE.due("of(2, 2)", x.of(2, 2), 9);
        DUE.due("state(0)", x.state(0), 0);
        DUE.keeps("pluck(2) again", x, () -> x.pluck(2), -3);
        DUE.keeps("pluck(3)", x, () -> x.pluck(3), -1);
        DUE.keeps("pluck(-1)", x, () -> x.pluck(-1), -1);
        DUE.due("pluck(0)", x.pluck(0), 1);
        DUE.due("of(0, 5)", x.of(0, 5), 2);
        DUE.due("pluck(1)", x.pluck(1), 0);
        DUE.due("of(1, 5)", x.of(1, 5), 3);
        DUE.due("state(4)", x.state(4), 645);
    }

    private static void bough() {
        DUE.promise(13, "bough");
        LeafFalls x = new LeafFalls();
        for (int i = 0; i < 8; i++) {
            x.leaf(0, i % 2 == 0 ? 5 : 1, 50, 0);
        }
        DUE.due("bough(5, 1)", x.bough(5, 1), 85);
        DUE.due("bough(1, 1)", x.bough(1, 1), 170);
        DUE.due("bough(0, 1)", x.bough(0, 1), 0);
        x.pluck(7);
        DUE.due("bough(1, 1)", x.bough(1, 1), 42);
        DUE.due("bough(1, 0)", x.bough(1, 0), 1);
        DUE.due("bough(6, 0)", () -> x.bough(6, 0), -1);
        DUE.due("bough(-1, 0)", () -> x.bough(-1, 0), -1);
        DUE.due("bough(0, 2)", () -> x.bough(0, 2), -1);
        DUE.due("bough(0, -1)", () -> x.bough(0, -1), -1);
        DUE.due("bough(max, 1)", () -> x.bough(MAX, 1), -1);
    }

    private static void sway() {
        DUE.promise(14, "sway");
        LeafFalls x = new LeafFalls();
        DUE.due("sway(5, 9)", x.sway(5, 9), 1);
        DUE.due("bough(5, 0)", x.bough(5, 0), 9);
        DUE.due("sway(5, 0)", x.sway(5, 0), 9);
        DUE.due("state(5)", x.state(5), 5);
        DUE.keeps("sway(5, 10)", x, () -> x.sway(5, 10), -1);
        DUE.keeps("sway(5, -1)", x, () -> x.sway(5, -1), -1);
        DUE.keeps("sway(6, 1)", x, () -> x.sway(6, 1), -1);
        DUE.keeps("sway(-1, 1)", x, () -> x.sway(-1, 1), -1);
    }
}
