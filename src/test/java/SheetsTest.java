/** Promises 32 to 41: rows and the reader, sheets and shelves. */
public final class SheetsTest {
    private static final Due DUE = new Due("SheetsTest");
    private static final int MAX = Integer.MAX_VALUE;
    private static final int MIN = Integer.MIN_VALUE;

    public static void main(String[] args) {
        prove();
        rowAndAlterRow();
        judge();
        minds();
        sheet();
        putAndItem();
        shelf();
        shelvesHoldRows();
        shelvesHoldLeaves();
        taken();
        DUE.close();
    }

    private static void rowIs(LeafFalls x, int i, int hold, int hangs, int fallen) {
        DUE.due("row(" + i + ", 0)", x.row(i, 0), hold);
        DUE.due("row(" + i + ", 1)", x.row(i, 1), hangs);
        DUE.due("row(" + i + ", 2)", x.row(i, 2), fallen);
    }

    private static void prove() {
        DUE.promise(32, "prove");
        LeafFalls x = Due.told("leaf on 0 hold 10 sign 1; leaf on 0 hold 1 sign 2; leaf on 0 hold 50;");
        DUE.keeps("prove(0, 0)", x, () -> x.prove(0, 0), -1);
        DUE.keeps("prove(0, 11)", x, () -> x.prove(0, 11), -1);
        DUE.keeps("prove(3, 1)", x, () -> x.prove(3, 1), -1);
        DUE.keeps("prove(-1, 1)", x, () -> x.prove(-1, 1), -1);
        x.pluck(2);
        int z = x.seed(3);
        DUE.due("prove(0, 10)", x.prove(0, 10), 10);
        rowIs(x, 0, 6, 1, 2);
        rowIs(x, 1, 2, 1, 2);
        rowIs(x, 2, 0, 0, 3);
        rowIs(x, 9, 0, 0, 3);
        DUE.due("many(4)", x.many(4), 10);
        // only tried: all but the rows is as it was
        DUE.due("of(0, 2)", x.of(0, 2), 10);
        DUE.due("state(0)", x.state(0), 0);
        DUE.due("many(2)", x.many(2), 1);
        DUE.due("seed(z)", x.seed(z), 3);
        // fewer rows take the place of more
        DUE.due("prove(1, 1)", x.prove(1, 1), 1);
        rowIs(x, 0, 0, 0, 2);
        DUE.due("row(1, 0)", x.row(1, 0), -9);
        DUE.due("many(4)", x.many(4), 1);
        // one that has fallen has rows, too
        DUE.due("prove(2, 2)", x.prove(2, 2), 2);
        rowIs(x, 0, 50, 0, 2);
        rowIs(x, 1, 50, 0, 2);
        DUE.keeps("prove(0, 11) of two rows", x, () -> x.prove(0, 11), -1);
    }

    private static void rowAndAlterRow() {
        DUE.promise(33, "row");
        LeafFalls x = Due.told("leaf on 0 hold 10 sign 1;");
        DUE.due("row(0, 0)", () -> x.row(0, 0), -9);
        x.prove(0, 3);
        rowIs(x, 0, 6, 1, 0);
        rowIs(x, 1, 2, 1, 0);
        rowIs(x, 2, 0, 0, 1);
        DUE.due("row(3, 0)", () -> x.row(3, 0), -9);
        DUE.due("row(-1, 0)", () -> x.row(-1, 0), -9);
        DUE.due("row(0, -1)", () -> x.row(0, -1), -9);
        DUE.due("row(0, 3)", () -> x.row(0, 3), -9);
        DUE.due("row(max, max)", () -> x.row(MAX, MAX), -9);
        DUE.due("row(min, 0)", () -> x.row(MIN, 0), -9);
        DUE.promise(34, "alterRow");
        DUE.due("alterRow(1, 0, -77)", x.alterRow(1, 0, -77), 2);
        DUE.due("alterRow(1, 1, max)", x.alterRow(1, 1, MAX), 1);
        DUE.due("alterRow(1, 2, min)", x.alterRow(1, 2, MIN), 0);
        rowIs(x, 0, 6, 1, 0);
        rowIs(x, 1, -77, MAX, MIN);
        rowIs(x, 2, 0, 0, 1);
        DUE.due("alterRow(1, 0, 2)", x.alterRow(1, 0, 2), -77);
        DUE.keeps("alterRow(3, 0, 1)", x, () -> x.alterRow(3, 0, 1), -9);
        DUE.keeps("alterRow(-1, 0, 1)", x, () -> x.alterRow(-1, 0, 1), -9);
        DUE.keeps("alterRow(0, 3, 1)", x, () -> x.alterRow(0, 3, 1), -9);
        DUE.keeps("alterRow(0, -1, 1)", x, () -> x.alterRow(0, -1, 1), -9);
    }

    private static void judge() {
        DUE.promise(35, "judge");
        LeafFalls x = Due.told("leaf on 0 hold 10 sign 1; leaf on 0 hold 10 sign 1; leaf on 1 hold 10 sign 1; sway 1 is 2;");
        DUE.due("judge(0) of no rows", x.judge(0), 0);
        DUE.due("judge(3) of no rows", () -> x.judge(3), -1);
        DUE.due("judge(-1) of no rows", () -> x.judge(-1), -1);
        x.prove(0, 6);
        DUE.keeps("judge(0)", x, () -> x.judge(0), 0);
        // the other one falls a day later; the third loses more at once
        DUE.keeps("judge(1)", x, () -> x.judge(1), 3);
        DUE.keeps("judge(2)", x, () -> x.judge(2), 1);
        for (int i = 0; i < 6; i++) {
            for (int what = 0; what < 3; what++) {
                int was = x.alterRow(i, what, 98);
                int row = i;
                DUE.keeps("judge(0) with row " + i + ", " + what + " altered", x, () -> x.judge(0), row + 1);
                x.alterRow(i, what, was);
            }
        }
        x.alterRow(4, 0, 7);
        x.alterRow(2, 2, 7);
        DUE.keeps("judge(0) with two rows altered", x, () -> x.judge(0), 3);
        x.prove(0, 6);
        // from how it is now
        x.hold(0, 11);
        DUE.keeps("judge(0) with another hold", x, () -> x.judge(0), 1);
        x.hold(0, 10);
        DUE.keeps("judge(0)", x, () -> x.judge(0), 0);
        x.days(1);
        DUE.keeps("judge(0) a day later", x, () -> x.judge(0), 1);
        DUE.keeps("judge(3)", x, () -> x.judge(3), -1);
        x.alterRow(0, 1, 0);
        DUE.keeps("judge(-1)", x, () -> x.judge(-1), -1);
    }

    private static void minds() {
        DUE.promise(36, "minds");
        LeafFalls x = Due.told("leaf on 0 hold 1; leaf on 0 hold 2; leaf on 0 hold 3; leaf on 0 hold 4;");
        x.sheet(0, 0, 5);
        int[] items = {7, -1, 127, 99, 55};
        for (int i = 0; i < 5; i++) {
            x.put(0, i, items[i]);
        }
        x.sheet(1, 1, 5);
        x.sheet(3, 0, 0);
        DUE.due("minds(0, 0, 1, 3)", x.minds(0, 0, 1, 3), 3);
        int[] holds = {1, 7, 0, 99};
        for (int i = 0; i < 4; i++) {
            DUE.due("of(" + i + ", 2)", x.of(i, 2), holds[i]);
        }
        x.pluck(0);
        DUE.due("minds(0, 3, 0, 2)", x.minds(0, 3, 0, 2), 2);
        DUE.due("of(0, 2) of one that has fallen", x.of(0, 2), 99);
        DUE.due("of(1, 2)", x.of(1, 2), 55);
        DUE.due("of(2, 2)", x.of(2, 2), 0);
        DUE.due("minds(0, 1, 0, 4)", x.minds(0, 1, 0, 4), 4);
        DUE.due("of(3, 2)", x.of(3, 2), 55);
        DUE.keeps("minds(0, 5, 3, 0)", x, () -> x.minds(0, 5, 3, 0), 0);
        DUE.keeps("minds(0, 0, 3, 0)", x, () -> x.minds(0, 0, 3, 0), 0);
        DUE.keeps("minds(3, 0, 3, 0)", x, () -> x.minds(3, 0, 3, 0), 0);
        DUE.keeps("minds(0, 6, 3, 0)", x, () -> x.minds(0, 6, 3, 0), -12);
        DUE.keeps("minds(0, -1, 3, 0)", x, () -> x.minds(0, -1, 3, 0), -12);
        DUE.keeps("minds(0, max, 0, 4)", x, () -> x.minds(0, MAX, 0, 4), -12);
        DUE.keeps("minds(0, min, 0, 4)", x, () -> x.minds(0, MIN, 0, 4), -12);
        DUE.keeps("minds(0, 5, 3, 1)", x, () -> x.minds(0, 5, 3, 1), -12);
        DUE.keeps("minds(0, 2, 0, 4)", x, () -> x.minds(0, 2, 0, 4), -12);
        DUE.keeps("minds(3, 0, 3, 1)", x, () -> x.minds(3, 0, 3, 1), -12);
        DUE.keeps("minds(1, 0, 0, 1)", x, () -> x.minds(1, 0, 0, 1), -13);
        DUE.keeps("minds(1, 9, 0, 1)", x, () -> x.minds(1, 9, 0, 1), -13);
        DUE.keeps("minds(2, 9, 0, 1)", x, () -> x.minds(2, 9, 0, 1), -11);
        DUE.keeps("minds(2, 0, 0, 0)", x, () -> x.minds(2, 0, 0, 0), -11);
        DUE.keeps("minds(4, 0, 0, 1)", x, () -> x.minds(4, 0, 0, 1), -1);
        DUE.keeps("minds(-1, 0, 0, 1)", x, () -> x.minds(-1, 0, 0, 1), -1);
        DUE.keeps("minds(2, 0, 4, 0)", x, () -> x.minds(2, 0, 4, 0), -1);
        DUE.keeps("minds(2, 0, -1, 1)", x, () -> x.minds(2, 0, -1, 1), -1);
        DUE.keeps("minds(2, 0, 0, -1)", x, () -> x.minds(2, 0, 0, -1), -1);
        DUE.keeps("minds(2, 0, 0, 9)", x, () -> x.minds(2, 0, 0, 9), -1);
        DUE.keeps("minds(2, 0, 0, 5)", x, () -> x.minds(2, 0, 0, 5), -1);
        DUE.keeps("minds(2, 0, 3, 2)", x, () -> x.minds(2, 0, 3, 2), -1);
        DUE.keeps("minds(2, 0, max, max)", x, () -> x.minds(2, 0, MAX, MAX), -1);
        for (int sort = 2; sort < 4; sort++) {
            x.sheet(1, sort, 5);
            DUE.keeps("minds(1, 0, 0, 1)", x, () -> x.minds(1, 0, 0, 1), -13);
        }
        LeafFalls y = Due.told("leaf on 0;".repeat(8));
        y.sheet(0, 0, 8);
        DUE.due("minds(0, 0, 0, 8)", y.minds(0, 0, 0, 8), 8);
        DUE.due("state(2)", y.state(2), 0);
    }

    private static void sheet() {
        DUE.promise(37, "sheet");
        LeafFalls x = new LeafFalls();
        DUE.due("sheet(0, 0, 40)", x.sheet(0, 0, 40), 1);
        DUE.due("put(0, 39, 5)", x.put(0, 39, 5), 1);
        DUE.due("item(0, 0, 39)", x.item(0, 0, 39), 5);
        DUE.due("put(0, 0, 5)", x.put(0, 0, 5), 1);
        DUE.due("sheet(0, 0, 40) again", x.sheet(0, 0, 40), 1);
        DUE.due("item(0, 0, 39)", x.item(0, 0, 39), 0);
        DUE.due("item(0, 0, 0)", x.item(0, 0, 0), 0);
        DUE.due("put(0, 2, 5)", x.put(0, 2, 5), 1);
        DUE.due("sheet(0, 3, 3)", x.sheet(0, 3, 3), 1);
        DUE.due("item(0, 3, 2)", x.item(0, 3, 2), 0);
        DUE.due("item(0, 3, 3)", x.item(0, 3, 3), -12);
        DUE.due("item(0, 0, 2)", x.item(0, 0, 2), -13);
        DUE.due("sheet(0, -1, 9)", x.sheet(0, -1, 9), 1);
        DUE.due("item(0, 3, 2)", x.item(0, 3, 2), -11);
        DUE.due("sheet(0, -1, 41)", x.sheet(0, -1, 41), 1);
        DUE.due("sheet(0, -1, min)", x.sheet(0, -1, MIN), 1);
        DUE.due("sheet(3, 1, 0)", x.sheet(3, 1, 0), 1);
        DUE.due("item(3, 1, 0)", x.item(3, 1, 0), -12);
        x.sheet(1, 2, 4);
        x.put(1, 0, 9);
        DUE.keeps("sheet(-1, 0, 1)", x, () -> x.sheet(-1, 0, 1), -1);
        DUE.keeps("sheet(4, 0, 1)", x, () -> x.sheet(4, 0, 1), -1);
        DUE.keeps("sheet(4, -1, 1)", x, () -> x.sheet(4, -1, 1), -1);
        DUE.keeps("sheet(1, 4, 1)", x, () -> x.sheet(1, 4, 1), -1);
        DUE.keeps("sheet(1, -2, 1)", x, () -> x.sheet(1, -2, 1), -1);
        DUE.keeps("sheet(1, 4, -1)", x, () -> x.sheet(1, 4, -1), -1);
        DUE.keeps("sheet(4, 2, -1)", x, () -> x.sheet(4, 2, -1), -1);
        DUE.keeps("sheet(1, 2, 41)", x, () -> x.sheet(1, 2, 41), -1);
        DUE.keeps("sheet(1, 2, max)", x, () -> x.sheet(1, 2, MAX), -1);
        DUE.keeps("sheet(1, 2, -1)", x, () -> x.sheet(1, 2, -1), -14);
        DUE.keeps("sheet(1, 2, min)", x, () -> x.sheet(1, 2, MIN), -14);
        DUE.due("item(1, 2, 0)", x.item(1, 2, 0), 9);
    }

    private static void putAndItem() {
        DUE.promise(38, "put");
        LeafFalls x = new LeafFalls();
        int[] values = {5, 127, 128, 200, -129, 32767, 32768, -32769, 65536, MAX, MIN, -1, -11};
        for (int sort = 0; sort < 4; sort++) {
            x.sheet(sort, sort, 3);
            for (int v : values) {
                DUE.due("put(" + sort + ", 1, " + v + ")", x.put(sort, 1, v), 1);
                DUE.due("item(" + sort + ", " + sort + ", 1)", x.item(sort, sort, 1), sort == 0 ? (byte) v : sort == 1 ? (short) v : v);
            }
            DUE.due("item(" + sort + ", " + sort + ", 0)", x.item(sort, sort, 0), 0);
            DUE.due("item(" + sort + ", " + sort + ", 2)", x.item(sort, sort, 2), 0);
        }
        DUE.keeps("put(-1, 0, 1)", x, () -> x.put(-1, 0, 1), -1);
        DUE.keeps("put(4, 0, 1)", x, () -> x.put(4, 0, 1), -1);
        DUE.keeps("put(0, 3, 1)", x, () -> x.put(0, 3, 1), -12);
        DUE.keeps("put(0, -1, 1)", x, () -> x.put(0, -1, 1), -12);
        DUE.keeps("put(0, max, 1)", x, () -> x.put(0, MAX, 1), -12);
        DUE.keeps("put(0, min, 1)", x, () -> x.put(0, MIN, 1), -12);
        DUE.promise(39, "item");
        DUE.due("item(-1, 0, 0)", () -> x.item(-1, 0, 0), -1);
        DUE.due("item(4, 0, 0)", () -> x.item(4, 0, 0), -1);
        DUE.due("item(0, -1, 0)", () -> x.item(0, -1, 0), -1);
        DUE.due("item(0, 4, 0)", () -> x.item(0, 4, 0), -1);
        DUE.due("item(0, 1, 9)", () -> x.item(0, 1, 9), -13);
        DUE.due("item(0, 0, 3)", () -> x.item(0, 0, 3), -12);
        DUE.due("item(0, 0, -1)", () -> x.item(0, 0, -1), -12);
        x.sheet(0, -1, 0);
        DUE.due("item(0, 0, 9)", () -> x.item(0, 0, 9), -11);
        DUE.due("item(0, 4, 9)", () -> x.item(0, 4, 9), -1);
        DUE.keeps("put(0, 9, 1) of a missing one", x, () -> x.put(0, 9, 1), -11);
    }

    private static void shelf() {
        DUE.promise(40, "shelf");
        LeafFalls x = Due.told("leaf on 0; red on 0;");
        x.sheet(2, 1, 7);
        DUE.due("shelf(0, 0, 1)", x.shelf(0, 0, 1), 1);
        DUE.due("taken(0, 0)", x.taken(0, 0), 1);
        DUE.due("shelf(0, 1, 2)", x.shelf(0, 1, 2), 1);
        DUE.due("taken(0, 11)", x.taken(0, 11), 7);
        DUE.due("shelf(0, 1, 3) of a missing one", x.shelf(0, 1, 3), 1);
        DUE.due("taken(0, 0)", x.taken(0, 0), -11);
        DUE.due("shelf(3, 0, 0)", x.shelf(3, 0, 0), 1);
        DUE.due("taken(3, 0)", x.taken(3, 0), 0);
        DUE.due("taken(2, 0)", x.taken(2, 0), -11);
        DUE.keeps("shelf(-1, 0, 0)", x, () -> x.shelf(-1, 0, 0), -1);
        DUE.keeps("shelf(4, 0, 0)", x, () -> x.shelf(4, 0, 0), -1);
        DUE.keeps("shelf(4, 2, 0)", x, () -> x.shelf(4, 2, 0), -1);
        DUE.keeps("shelf(3, -1, 0)", x, () -> x.shelf(3, -1, 0), -1);
        DUE.keeps("shelf(3, 3, 0)", x, () -> x.shelf(3, 3, 0), -1);
        DUE.keeps("shelf(3, 0, 2)", x, () -> x.shelf(3, 0, 2), -1);
        DUE.keeps("shelf(3, 0, -1)", x, () -> x.shelf(3, 0, -1), -1);
        DUE.keeps("shelf(3, 1, 4)", x, () -> x.shelf(3, 1, 4), -1);
        DUE.keeps("shelf(3, 1, -1)", x, () -> x.shelf(3, 1, -1), -1);
        DUE.due("shelf(3, 2, 99)", x.shelf(3, 2, 99), 1);
        DUE.due("taken(3, 0)", x.taken(3, 0), -11);
    }

    /** A shelf holds the row that the sheet had when it was put there. */
    private static void shelvesHoldRows() {
        DUE.promise(40, "shelf");
        LeafFalls x = new LeafFalls();
        x.sheet(1, 2, 7);
        x.shelf(0, 1, 1);
        x.sheet(1, 3, 9);
        DUE.due("taken(0, 12)", x.taken(0, 12), 7);
        DUE.due("taken(0, 13)", x.taken(0, 13), -13);
        x.sheet(1, -1, 0);
        DUE.due("taken(0, 12)", x.taken(0, 12), 7);
        x.shelf(1, 1, 1);
        DUE.due("taken(1, 12)", x.taken(1, 12), -11);
        x.sheet(1, 2, 5);
        DUE.due("taken(1, 12)", x.taken(1, 12), -11);
    }

    /** One of the leaves is held by its number: what it is, is seen when it is taken. */
    private static void shelvesHoldLeaves() {
        DUE.promise(40, "shelf");
        LeafFalls x = Due.told("leaf on 0; red on 0;");
        x.keep();
        x.shelf(0, 0, 1);
        DUE.due("taken(0, 1)", x.taken(0, 1), 1);
        x.mind(1, 2, 0);
        DUE.due("taken(0, 1)", x.taken(0, 1), -13);
        DUE.due("taken(0, 2)", x.taken(0, 2), 1);
        x.pluck(1);
        DUE.due("taken(0, 2) of one that has fallen", x.taken(0, 2), 1);
        Due.feed(x, "gold on 1;");
        x.autumn();
        DUE.due("taken(0, 0) of none such", x.taken(0, 0), -11);
        DUE.due("act(0, 0, 1) of none such", x.act(0, 0, 1), 0);
        x.leaf(4, 0, 0, 0);
        DUE.due("taken(0, 4)", x.taken(0, 4), 1);
        x.again();
        DUE.due("taken(0, 1)", x.taken(0, 1), 1);
    }

    private static void taken() {
        DUE.promise(41, "taken");
        LeafFalls x = new LeafFalls();
        for (int kind = 0; kind < 6; kind++) {
            x.leaf(kind, 0, 50, 0);
        }
        // 1 red, 2 yellow and 5 evergreen are under 0 leaf, 3 scarlet under red, 4 gold under yellow
        String[] under = {"0", "01", "02", "013", "024", "05"};
        for (int kind = 0; kind < 6; kind++) {
            x.shelf(1, 0, kind);
            for (int as = 0; as < 6; as++) {
                DUE.due("taken(1, " + as + ") of kind " + kind, x.taken(1, as), under[kind].indexOf('0' + as) >= 0 ? kind : -13);
            }
            for (int as = 10; as < 14; as++) {
                DUE.due("taken(1, " + as + ") of kind " + kind, x.taken(1, as), -13);
            }
        }
        for (int sort = 0; sort < 4; sort++) {
            x.sheet(sort, sort, 3 + sort);
            x.shelf(2, 1, sort);
            for (int as = 0; as < 14; as++) {
                int want = as > 5 && as < 10 ? -1 : as == 10 + sort ? 3 + sort : -13;
                DUE.due("taken(2, " + as + ") of sort " + sort, x.taken(2, as), want);
            }
        }
        x.shelf(2, 2, 0);
        for (int as = -1; as < 15; as++) {
            boolean none = as < 0 || as > 5 && as < 10 || as > 13;
            DUE.due("taken(2, " + as + ") of nothing", x.taken(2, as), none ? -1 : -11);
            DUE.due("taken(4, " + as + ")", x.taken(4, as), -1);
            DUE.due("taken(-1, " + as + ")", x.taken(-1, as), -1);
        }
        DUE.due("taken(2, max)", () -> x.taken(2, MAX), -1);
        DUE.due("taken(2, min)", () -> x.taken(2, MIN), -1);
    }
}
