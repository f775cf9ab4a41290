/** Promises 42 to 46: acts and the trace, how many, what is kept. */
public final class ActsTest {
    private static final Due DUE = new Due("ActsTest");
    private static final int MAX = Integer.MAX_VALUE;
    private static final int MIN = Integer.MIN_VALUE;

    public static void main(String[] args) {
        leaf();
        red();
        yellow();
        scarlet();
        gold();
        evergreen();
        wraps();
        partedByZero();
        everyShelf();
        nothingActs();
        trace();
        many();
        keepAndAgain();
        DUE.close();
    }

    /** A thing of a kind with a number and a sign, on shelf 2. */
    private static LeafFalls thing(int kind, int number, int sign) {
        LeafFalls x = new LeafFalls();
        for (int i = 0; i <= number; i++) {
            x.leaf(kind, 0, 50, sign);
        }
        x.shelf(2, 0, number);
        return x;
    }

    private static void acts(LeafFalls x, int act, int v, int want, int... bodies) {
        DUE.promise(42, "act");
        DUE.due("act(2, " + act + ", " + v + ")", () -> x.act(2, act, v), want);
        DUE.promise(43, "trace");
        for (int i = 0; i < bodies.length; i++) {
            DUE.due("trace(" + i + ") of act " + act, x.trace(i), bodies[i]);
        }
        DUE.due("trace(end) of act " + act, x.trace(bodies.length), -3);
        DUE.due("many(6) of act " + act, x.many(6), bodies.length);
    }

    private static void leaf() {
        LeafFalls x = thing(0, 0, 4);
        acts(x, 0, -7, -14, 10);
        acts(x, 1, -7, -18, 11, 10);
        acts(x, 2, -7, -1, 12);
        acts(x, 3, -7, -6, 13, 11, 10);
        LeafFalls y = thing(0, 7, 9);
        acts(y, 0, 3, 41, 10);
        acts(y, 1, 3, 32, 11, 10);
        acts(y, 2, 9, 4, 12);
        acts(y, 2, -9, -4, 12);
        acts(y, 3, 3, 32 ^ 20, 13, 11, 10);
    }

    private static void red() {
        LeafFalls x = thing(1, 3, 9);
        acts(x, 0, -1, 13, 10);
        acts(x, 1, -1, 11, 20, 11, 10);
        acts(x, 2, -1, 0, 12);
        acts(x, 2, -13, -2, 12);
        acts(x, 3, -1, 31, 13, 20, 11, 10);
    }

    private static void yellow() {
        LeafFalls x = thing(2, 4, 0);
        acts(x, 0, 10, 41, 30, 10);
        acts(x, 1, 10, 41, 11, 30, 10);
        acts(x, 2, 10, -2, 12);
        acts(x, 3, 10, 62, 31, 13, 11, 30, 10, 12);
    }

    private static void scarlet() {
        LeafFalls x = thing(3, 2, 5);
        acts(x, 0, 7, 29, 51, 10);
        acts(x, 1, 7, 31, 20, 11, 51, 10);
        acts(x, 2, 7, -3, 50, 12);
        acts(x, 3, 7, 11, 13, 20, 11, 51, 10);
    }

    private static void gold() {
        LeafFalls x = thing(4, 1, 3);
        acts(x, 0, 5, 28, 40, 30, 10);
        acts(x, 1, 5, 5, 41, 11, 40, 30, 10, 40, 30, 10);
        acts(x, 2, 5, 2, 12);
        acts(x, 3, 5, 17, 31, 13, 41, 11, 40, 30, 10, 40, 30, 10, 12);
        LeafFalls y = thing(4, 5, 2);
        // lands: names(1) = (52 - 2) - turns(2) = 50 - 56 = -6; -6 ^ 20 = -18; parts(5) = 5 / -3 = -1
        acts(y, 3, 1, -17, 31, 13, 41, 11, 40, 30, 10, 40, 30, 10, 12);
    }

    private static void evergreen() {
        LeafFalls x = thing(5, 5, 8);
        acts(x, 0, 100, 225, 10);
        acts(x, 1, 100, 217, 11, 10);
        acts(x, 2, 100, 68, 61, 12, 10);
        acts(x, 3, 100, 169, 60, 13, 11, 10);
    }

    private static void wraps() {
        LeafFalls x = thing(0, 1, 0);
        acts(x, 0, MAX, 3, 10);
        acts(x, 0, MIN, 5, 10);
        acts(x, 2, MIN, MIN, 12);
        acts(x, 2, MAX, -MAX, 12);
        LeafFalls y = thing(3, 0, 1);
        acts(y, 2, MAX, -(MIN + 2), 50, 12);
        LeafFalls z = thing(3, 1, 0);
        acts(z, 2, MIN - 3, MIN, 50, 12);
    }

    private static void partedByZero() {
        LeafFalls leaf = thing(0, 3, 3);
        acts(leaf, 2, 7, -15, 12);
        acts(leaf, 0, 7, 29, 10);
        acts(leaf, 3, 7, 26 ^ 20, 13, 11, 10);
        acts(leaf, 2, 0, -15, 12);
        LeafFalls yellow = thing(2, 1, 1);
        acts(yellow, 3, 7, -15, 31, 13, 11, 30, 10, 12);
        acts(yellow, 0, 7, 18, 30, 10);
        LeafFalls scarlet = thing(3, 1, 1);
        acts(scarlet, 2, 7, -15, 50, 12);
        LeafFalls gold = thing(4, 0, 0);
        acts(gold, 3, 7, -15, 31, 13, 41, 11, 40, 30, 10, 40, 30, 10, 12);
        // what would begin behind the parting does not
        LeafFalls evergreen = thing(5, 2, 2);
        acts(evergreen, 2, 7, -15, 61, 12);
        acts(evergreen, 3, 7, (((14 + 10 - 2) ^ 20) ^ 7), 60, 13, 11, 10);
        // the sign is as it is now
        evergreen.mind(2, 5, 3);
        acts(evergreen, 2, 7, 7 + 14, 61, 12, 10);
    }

    private static void answersNothing(LeafFalls x, int shelf, int act) {
        DUE.promise(42, "act");
        x.act(2, 0, 1);
        DUE.due("many(6)", x.many(6), 1);
        DUE.due("act(" + shelf + ", " + act + ", 5)", () -> x.act(shelf, act, 5), 0);
        DUE.due("many(6) then", x.many(6), 0);
        DUE.due("trace(0) then", x.trace(0), -3);
    }

    private static void everyShelf() {
        DUE.promise(42, "act");
        LeafFalls x = thing(0, 7, 5);
        for (int shelf = 0; shelf < 4; shelf++) {
            x.shelf(shelf, 0, 2 * shelf + 1);
        }
        for (int shelf = 0; shelf < 4; shelf++) {
            DUE.due("act(" + shelf + ", 0, 3)", x.act(shelf, 0, 3), 6 + 5 * (2 * shelf + 1));
        }
    }

    private static void nothingActs() {
        LeafFalls x = thing(0, 1, 5);
        x.sheet(0, 0, 4);
        x.shelf(1, 1, 0);
        answersNothing(x, 0, 0);
        answersNothing(x, 1, 0);
        answersNothing(x, -1, 0);
        answersNothing(x, 4, 0);
        answersNothing(x, MAX, 0);
        answersNothing(x, 2, -1);
        answersNothing(x, 2, 4);
        answersNothing(x, 2, MIN);
        // none such at the time
        x.shelf(3, 0, 1);
        Due.feed(x, "leaf on 0;");
        x.shelf(2, 0, 0);
        x.autumn();
        answersNothing(x, 3, 0);
        // a fallen one acts on
        x.pluck(0);
        DUE.due("act(2, 0, 4) of one that has fallen", x.act(2, 0, 4), 8);
        // a zero that is one keeps its trace
        DUE.due("act(2, 0, 0)", x.act(2, 0, 0), 0);
        DUE.due("many(6)", x.many(6), 1);
    }

    private static void trace() {
        DUE.promise(43, "trace");
        LeafFalls x = thing(4, 1, 3);
        DUE.due("trace(0)", x.trace(0), -3);
        x.act(2, 3, 5);
        x.act(2, 0, 5);
        DUE.due("trace(2)", x.trace(2), 10);
        DUE.due("trace(3)", x.trace(3), -3);
        DUE.due("trace(-1)", () -> x.trace(-1), -3);
        DUE.due("trace(30)", () -> x.trace(30), -3);
        DUE.due("trace(max)", () -> x.trace(MAX), -3);
        DUE.due("trace(min)", () -> x.trace(MIN), -3);
        x.taken(2, 0);
        x.taken(1, 0);
        x.days(3);
        DUE.due("trace(0) of the latest", x.trace(0), 40);
    }

    private static void many() {
        DUE.promise(44, "many");
        LeafFalls x = Due.told("leaf on 0; leaf on 0; leaf on 3; leaf on 5; gold on 5 sign 3; scarlet on 4 hold 3; scarlet on 4 hold 3;");
        DUE.due("many(0)", x.many(0), 7);
        DUE.due("many(1)", x.many(1), 7);
        DUE.due("many(2)", x.many(2), 0);
        DUE.due("many(3)", x.many(3), 4);
        x.pluck(2);
        DUE.due("many(0)", x.many(0), 7);
        DUE.due("many(1)", x.many(1), 6);
        DUE.due("many(2)", x.many(2), 1);
        DUE.due("many(3)", x.many(3), 3);
        x.pluck(0);
        DUE.due("many(3)", x.many(3), 3);
        x.prove(0, 7);
        Due.feed(x, "123456789");
        x.shelf(0, 0, 4);
        x.act(0, 1, 1);
        DUE.due("many(4)", x.many(4), 7);
        DUE.due("many(5)", x.many(5), 9);
        DUE.due("many(6)", x.many(6), 8);
        DUE.due("many(7)", () -> x.many(7), -1);
        DUE.due("many(-1)", () -> x.many(-1), -1);
        DUE.due("many(max)", () -> x.many(MAX), -1);
    }

    private static void keepAndAgain() {
        DUE.promise(45, "keep");
        LeafFalls x = Due.told("leaf on 1 hold 30 sign 4; gold on 2 hold 5 sign 3; red on 1 hold 1; wind 3; cold 4; wet 5; gale 6; sway 1 is 7;");
        x.days(1);
        x.seed(55);
        String first = Due.all(x);
        DUE.keeps("again() of nothing", x, x::again, -3);
        DUE.keeps("keep()", x, x::keep, 1);
        x.leaf(1, 1, 1, 1);
        x.days(20);
        x.set(0, 1);
        x.set(1, 1);
        x.set(2, 1);
        x.set(3, 1);
        x.sway(1, 1);
        x.sway(2, 9);
        x.mind(0, 3, 9);
        x.move(0, 5);
        x.hold(0, 50);
        x.seed(1);
        DUE.promise(46, "again");
        DUE.due("again()", x.again(), 3);
        DUE.due("all is as it was kept", Due.all(x).equals(first) ? 1 : 0, 1);
        // what is kept stays, whatever comes
        x.days(9);
        x.hold(0, 1);
        DUE.due("again()", x.again(), 3);
        DUE.due("all is as it was kept", Due.all(x).equals(first) ? 1 : 0, 1);
        // a tree that is tried does not touch what is kept
        x.lost(30);
        x.bare();
        x.tiedFor(0, 9);
        DUE.due("again()", x.again(), 3);
        DUE.due("all is as it was kept", Due.all(x).equals(first) ? 1 : 0, 1);

        // the tape, rows, sheets, shelves and the trace are not kept
        x.prove(0, 4);
        Due.feed(x, "wind 1;");
        x.sheet(1, 2, 3);
        x.put(1, 2, 8);
        x.shelf(1, 1, 1);
        x.shelf(0, 0, 0);
        x.act(0, 0, 1);
        DUE.due("again()", x.again(), 3);
        DUE.due("many(4)", x.many(4), 4);
        DUE.due("many(5)", x.many(5), 7);
        DUE.due("many(6)", x.many(6), 1);
        DUE.due("item(1, 2, 2)", x.item(1, 2, 2), 8);
        DUE.due("taken(0, 0)", x.taken(0, 0), 0);
        DUE.due("taken(1, 12)", x.taken(1, 12), 3);
        // only what was kept latest
        x.pluck(0);
        x.keep();
        x.pluck(2);
        DUE.due("again()", x.again(), 3);
        DUE.due("of(0, 4)", x.of(0, 4), 0);
        DUE.due("of(2, 4)", x.of(2, 4), 1);
        LeafFalls none = new LeafFalls();
        none.keep();
        none.leaf(0, 0, 0, 0);
        DUE.due("again() of no leaves", none.again(), 0);
        DUE.due("many(0)", none.many(0), 0);
    }
}
