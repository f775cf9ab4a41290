/** Promises 21 to 31: what is tried, and odds of gales. */
public final class TriedTest {
    private static final Due DUE = new Due("TriedTest");
    private static final int MAX = Integer.MAX_VALUE;
    private static final int MIN = Integer.MIN_VALUE;

    public static void main(String[] args) {
        falls();
        bare();
        next();
        latest();
        boughFor();
        kindFor();
        holdFor();
        tiedFor();
        tiedForAll();
        tiedDoNotShield();
        fits();
        odds();
        hope();
        DUE.close();
    }

    private static void falls() {
        DUE.promise(21, "falls");
        LeafFalls x = Due.told("leaf on 0 hold 10 sign 4; leaf on 0 hold 10 sign 5; leaf on 1 hold 10 sign 0;");
        DUE.keeps("falls(1)", x, () -> x.falls(1), 3);
        DUE.keeps("falls(0)", x, () -> x.falls(0), 4);
        DUE.keeps("falls(2)", x, () -> x.falls(2), 5);
        x.days(1);
        DUE.keeps("falls(1)", x, () -> x.falls(1), 2);
        x.pluck(0);
        DUE.keeps("falls(0) of one that has fallen", x, () -> x.falls(0), 0);
        DUE.keeps("falls(2)", x, () -> x.falls(2), 3);
        DUE.keeps("falls(3)", x, () -> x.falls(3), -1);
        DUE.keeps("falls(-1)", x, () -> x.falls(-1), -1);
        LeafFalls y = Due.told("leaf on 0 hold 60; leaf on 1 hold 61; wind 0; sway 0 is 0; sway 1 is 0;");
        DUE.keeps("falls(0) on the last day", y, () -> y.falls(0), 60);
        DUE.keeps("falls(1) a day too late", y, () -> y.falls(1), -3);
    }

    private static void bare() {
        DUE.promise(22, "bare");
        LeafFalls none = new LeafFalls();
        DUE.keeps("bare() of no leaves", none, none::bare, 0);
        LeafFalls x = Due.told("leaf on 0 hold 10 sign 4; leaf on 0 hold 10 sign 5;");
        DUE.keeps("bare()", x, x::bare, 4);
        x.pluck(0);
        DUE.keeps("bare()", x, x::bare, 3);
        x.pluck(1);
        DUE.keeps("bare() of all fallen", x, x::bare, 0);
        LeafFalls y = Due.told("leaf on 0 hold 60; wind 0; sway 0 is 0;");
        DUE.keeps("bare() on the last day", y, y::bare, 60);
        y.hold(0, 61);
        DUE.keeps("bare() a day too late", y, y::bare, -3);
    }

    private static void next() {
        DUE.promise(23, "next");
        LeafFalls none = new LeafFalls();
        DUE.keeps("next() of no leaves", none, none::next, -3);
        LeafFalls x = Due.told("leaf on 0 hold 9 sign 4; leaf on 0 hold 10 sign 5; leaf on 0 hold 3 sign 0;");
        DUE.keeps("next()", x, x::next, 2);
        x.pluck(2);
        // both are without hold on the same day: the greater rank goes first
        DUE.keeps("next()", x, x::next, 1);
        x.mind(1, 0, 4);
        DUE.keeps("next() of equal ranks", x, x::next, 0);
        x.pluck(0);
        x.pluck(1);
        DUE.keeps("next() of all fallen", x, x::next, -3);
        LeafFalls y = Due.told("leaf on 0 hold 61; leaf on 0 hold 60; wind 0; sway 0 is 0;");
        DUE.keeps("next() on the last day", y, y::next, 1);
        y.hold(1, 61);
        DUE.keeps("next() a day too late", y, y::next, -3);
    }

    private static void latest() {
        DUE.promise(24, "latest");
        LeafFalls none = new LeafFalls();
        DUE.keeps("latest() of no leaves", none, none::latest, -3);
        LeafFalls x = Due.told("leaf on 0 hold 9 sign 4; leaf on 0 hold 10 sign 5; leaf on 0 hold 3 sign 0;");
        DUE.keeps("latest()", x, x::latest, 0);
        x.pluck(0);
        DUE.keeps("latest()", x, x::latest, 1);
        x.pluck(1);
        DUE.keeps("latest()", x, x::latest, 2);
        x.pluck(2);
        DUE.keeps("latest() of all fallen", x, x::latest, -3);
        LeafFalls y = Due.told("leaf on 0 hold 60; leaf on 0 hold 61; leaf on 1 hold 99; wind 0; sway 0 is 0; sway 1 is 0;");
        // two don't fall within 60 days: the least of them
        DUE.keeps("latest()", y, y::latest, 1);
        y.hold(0, 61);
        DUE.keeps("latest()", y, y::latest, 0);
        y.hold(0, 60);
        y.hold(1, 59);
        DUE.keeps("latest()", y, y::latest, 2);
        y.hold(2, 58);
        DUE.keeps("latest() on the last day", y, y::latest, 0);
    }

    private static void boughFor() {
        DUE.promise(25, "boughFor");
        LeafFalls x = Due.told("leaf on 2 hold 30; sway 0 is 3; sway 1 is 2; sway 3 is 0; sway 4 is 0;");
        DUE.keeps("boughFor(0)", x, () -> x.boughFor(0), 3);
        x.sway(3, 1);
        DUE.keeps("boughFor(0)", x, () -> x.boughFor(0), 4);
        x.sway(5, 0);
        DUE.keeps("boughFor(0) of several", x, () -> x.boughFor(0), 4);
        x.hold(0, 0);
        DUE.keeps("boughFor(0) where all are the same", x, () -> x.boughFor(0), 0);
        DUE.keeps("boughFor(1)", x, () -> x.boughFor(1), -1);
        DUE.keeps("boughFor(-1)", x, () -> x.boughFor(-1), -1);
        x.pluck(0);
        DUE.keeps("boughFor(0) of one that has fallen", x, () -> x.boughFor(0), -3);
        // not within 60 days is later than all: with wind 0, sway 0 and hold 99
        LeafFalls y = Due.told("leaf on 2 hold 99; wind 0; sway 1 is 0; sway 4 is 0;");
        DUE.keeps("boughFor(0) of those never", y, () -> y.boughFor(0), 1);
        LeafFalls z = Due.told("leaf on 2 hold 61; wind 0; sway 1 is 0;");
        DUE.keeps("boughFor(0) of 61 days", z, () -> z.boughFor(0), 1);
        // a yellow one wants mates
        LeafFalls w = Due.told("yellow on 0 hold 9; evergreen on 3 hold 99; evergreen on 3 hold 99;");
        DUE.keeps("boughFor(0) of a yellow one", w, () -> w.boughFor(0), 3);
        // a scarlet one's rank goes by its bough: on the least it lets the other one go first
        LeafFalls v = Due.told("scarlet on 5 hold 10 sign 1; leaf on 0 hold 8 sign 5;");
        DUE.keeps("boughFor(0) of a scarlet one", v, () -> v.boughFor(0), 0);
        LeafFalls u = Due.told("scarlet on 0 hold 0 sign 9; leaf on 0 hold 0 sign 9;sway 0 is 3;");
        DUE.keeps("boughFor(0) of greater rank than all", u, () -> u.boughFor(0), 0);
    }

    private static void kindFor() {
        DUE.promise(26, "kindFor");
        LeafFalls x = Due.told("leaf on 2 hold 30;");
        DUE.keeps("kindFor(0)", x, () -> x.kindFor(0), 5);
        x.hold(0, 0);
        DUE.keeps("kindFor(0) where all are the same", x, () -> x.kindFor(0), 0);
        x.hold(0, 4);
        DUE.keeps("kindFor(0) of one day", x, () -> x.kindFor(0), 0);
        DUE.keeps("kindFor(1)", x, () -> x.kindFor(1), -1);
        DUE.keeps("kindFor(-1)", x, () -> x.kindFor(-1), -1);
        x.pluck(0);
        DUE.keeps("kindFor(0) of one that has fallen", x, () -> x.kindFor(0), -3);
        // with three lasting mates and neither wind nor sway a yellow one gains, and never falls; no lesser one does so
        LeafFalls y = Due.told("red on 2 hold 61; evergreen on 2 hold 99; evergreen on 2 hold 99; evergreen on 2 hold 99; wind 0; sway 2 is 0;");
        DUE.keeps("kindFor(0)", y, () -> y.kindFor(0), 0);
        y.hold(0, 60);
        DUE.keeps("kindFor(0)", y, () -> y.kindFor(0), 2);
        y.hold(0, 10);
        DUE.keeps("kindFor(0)", y, () -> y.kindFor(0), 2);
        // of several without hold the kind of least rank lasts: evergreen, with 0 less its sign
        LeafFalls w = Due.told("leaf on 0 hold 0 sign 9; leaf on 1 hold 0 sign 0; leaf on 1 hold 0 sign 0;");
        DUE.keeps("kindFor(0) by rank", w, () -> w.kindFor(0), 5);
        LeafFalls v = Due.told("scarlet on 5 hold 0 sign 9; red on 1 hold 0 sign 0; red on 1 hold 0 sign 0;");
        DUE.keeps("kindFor(0) by rank", v, () -> v.kindFor(0), 2);
    }

    private static void holdFor() {
        DUE.promise(27, "holdFor");
        LeafFalls x = Due.told("leaf on 0 hold 0;");
        DUE.keeps("holdFor(0, 1)", x, () -> x.holdFor(0, 1), 5);
        DUE.keeps("holdFor(0, 3)", x, () -> x.holdFor(0, 3), 13);
        DUE.keeps("holdFor(0, 20)", x, () -> x.holdFor(0, 20), 81);
        x.set(0, 3);
        DUE.keeps("holdFor(0, 19)", x, () -> x.holdFor(0, 19), 96);
        DUE.keeps("holdFor(0, 20)", x, () -> x.holdFor(0, 20), -3);
        x.set(0, 9);
        DUE.keeps("holdFor(0, 8)", x, () -> x.holdFor(0, 8), 89);
        DUE.keeps("holdFor(0, 9)", x, () -> x.holdFor(0, 9), -3);
        DUE.keeps("holdFor(0, 0)", x, () -> x.holdFor(0, 0), -1);
        DUE.keeps("holdFor(0, 21)", x, () -> x.holdFor(0, 21), -1);
        DUE.keeps("holdFor(1, 1)", x, () -> x.holdFor(1, 1), -1);
        DUE.keeps("holdFor(-1, 1)", x, () -> x.holdFor(-1, 1), -1);
        x.pluck(0);
        DUE.keeps("holdFor(0, 1) of one that has fallen", x, () -> x.holdFor(0, 1), -3);
        DUE.keeps("holdFor(0, 21) of one that has fallen", x, () -> x.holdFor(0, 21), -1);
        // while another one of greater rank goes first, none is needed
        LeafFalls y = Due.told("leaf on 0 hold 50 sign 1; leaf on 0 hold 0 sign 2;");
        DUE.keeps("holdFor(0, 1)", y, () -> y.holdFor(0, 1), 0);
        DUE.keeps("holdFor(0, 2)", y, () -> y.holdFor(0, 2), 9);
        // 99 is enough, but just
        LeafFalls z = Due.told("leaf on 0 hold 0; leaf on 1 hold 0; wind 5; sway 0 is 1;");
        DUE.keeps("holdFor(0, 14)", z, () -> z.holdFor(0, 14), 99);
        DUE.keeps("holdFor(0, 15)", z, () -> z.holdFor(0, 15), -3);
    }

    private static void tiedFor() {
        DUE.promise(28, "tiedFor");
        // yellow loses 1 less its mates; a mate of hold 2 falls on the second day
        LeafFalls x = Due.told("yellow on 0 hold 1; leaf on 0 hold 2; wind 0; sway 0 is 0;");
        DUE.keeps("tiedFor(0, 2)", x, () -> x.tiedFor(0, 2), 0);
        DUE.keeps("tiedFor(0, 3)", x, () -> x.tiedFor(0, 3), 2);
        DUE.keeps("tiedFor(0, 20)", x, () -> x.tiedFor(0, 20), 2);
        DUE.keeps("tiedFor(1, 1)", x, () -> x.tiedFor(1, 1), 0);
        DUE.keeps("tiedFor(1, 2)", x, () -> x.tiedFor(1, 2), -3);
        DUE.keeps("tiedFor(0, 0)", x, () -> x.tiedFor(0, 0), -1);
        DUE.keeps("tiedFor(0, 21)", x, () -> x.tiedFor(0, 21), -1);
        DUE.keeps("tiedFor(2, 1)", x, () -> x.tiedFor(2, 1), -1);
        DUE.keeps("tiedFor(-1, 1)", x, () -> x.tiedFor(-1, 1), -1);
        // what was tied then is not tied when something else is tried
        x.tiedFor(0, 20);
        DUE.keeps("falls(1)", x, () -> x.falls(1), 2);
        DUE.keeps("bare()", x, x::bare, 3);
        // of several sets of one the least
        LeafFalls y = Due.told("leaf on 0 hold 2; yellow on 0 hold 1; leaf on 0 hold 2; wind 0; sway 0 is 0;");
        DUE.keeps("tiedFor(1, 20)", y, () -> y.tiedFor(1, 20), 1);
        y.pluck(0);
        // one that has fallen can't be tied
        DUE.keeps("tiedFor(1, 20)", y, () -> y.tiedFor(1, 20), 4);
        y.pluck(2);
        DUE.keeps("tiedFor(1, 20)", y, () -> y.tiedFor(1, 20), -3);
        y.pluck(1);
        DUE.keeps("tiedFor(1, 1) of one that has fallen", y, () -> y.tiedFor(1, 1), -3);
        DUE.keeps("tiedFor(1, 21) of one that has fallen", y, () -> y.tiedFor(1, 21), -1);
        // Yellow loses 3 less its mates. Untied 3 falls on day 1, 1 and 2 on days 6 and 7, and 0 itself on day 9.
        // Fewest comes before least: behind 10 days 3 alone (8) does as well as 1 and 2 (6).
        LeafFalls z = Due.told("yellow on 0 hold 13 sign 9; leaf on 0 hold 18; leaf on 0 hold 18; leaf on 0 hold 3; wind 1;");
        int[][] wants = {{8, 0}, {9, 2}, {10, 8}, {12, 8}, {13, 6}, {14, 10}, {18, 10}, {19, 14}, {20, 14}};
        for (int[] want : wants) {
            DUE.keeps("tiedFor(0, " + want[0] + ")", z, () -> z.tiedFor(0, want[0]), want[1]);
        }
        z.hold(0, 0);
        DUE.keeps("tiedFor(0, 1) without hold", z, () -> z.tiedFor(0, 1), -3);
    }

    /** Yellow loses 8 less its mates, and each mate that isn't tied falls within days: all seven are wanted. */
    private static void tiedForAll() {
        DUE.promise(28, "tiedFor");
        LeafFalls x = Due.told("yellow on 0 hold 21;" + "leaf on 0 hold 1;".repeat(7) + "wind 6;");
        DUE.keeps("tiedFor(0, 20)", x, () -> x.tiedFor(0, 20), 254);
        x.hold(0, 20);
        DUE.keeps("tiedFor(0, 19)", x, () -> x.tiedFor(0, 19), 254);
        DUE.keeps("tiedFor(0, 20)", x, () -> x.tiedFor(0, 20), -3);
    }

    /** Tied ones don't fall: they are no candidates, and so another one falls instead of them. They gain nothing either. */
    private static void tiedDoNotShield() {
        DUE.promise(28, "tiedFor");
        LeafFalls x = Due.told("leaf on 0 hold 0 sign 1; leaf on 1 hold 0 sign 9;");
        DUE.keeps("tiedFor(0, 1)", x, () -> x.tiedFor(0, 1), 0);
        DUE.keeps("tiedFor(0, 2)", x, () -> x.tiedFor(0, 2), -3);
        // 1 has a hold of 0 and, were it not tied, would go first for one day only
        LeafFalls y = Due.told("leaf on 0 hold 8 sign 1; leaf on 1 hold 0 sign 9;");
        DUE.keeps("tiedFor(0, 2)", y, () -> y.tiedFor(0, 2), -3);
    }

    private static LeafFalls withSheet(String text, int sort, int... items) {
        LeafFalls x = Due.told(text);
        x.sheet(2, sort, items.length);
        for (int i = 0; i < items.length; i++) {
            x.put(2, i, items[i]);
        }
        return x;
    }

    private static void fits() {
        DUE.promise(29, "fits");
        String one = "leaf on 0 hold 50 sign 7;";
        for (int sort = 0; sort < 4; sort++) {
            LeafFalls x = withSheet(one, sort, 10, 7);
            DUE.keeps("fits(2, 0, 0)", x, () -> x.fits(2, 0, 0), 4);
            DUE.keeps("fits(2, 0, 1)", x, () -> x.fits(2, 0, 1), 5);
            LeafFalls any = withSheet(one, sort, -1, -1, 10);
            DUE.keeps("fits(2, 0, 0) of any", any, () -> any.fits(2, 0, 0), 100 - 4);
            DUE.keeps("fits(2, 0, 1) of any", any, () -> any.fits(2, 0, 1), 0);
        }
        for (int sheet = 0; sheet < 4; sheet++) {
            LeafFalls x = Due.told(one);
            int s = sheet;
            x.sheet(s, 1, 1);
            x.put(s, 0, 10);
            DUE.keeps("fits(" + s + ", 0, 0)", x, () -> x.fits(s, 0, 0), 95);
        }
        LeafFalls none = withSheet(one, 1);
        DUE.keeps("fits(2, 0, 0) of no days", none, () -> none.fits(2, 0, 0), 100);
        DUE.keeps("fits(2, 0, 1) of no days", none, () -> none.fits(2, 0, 1), 0);
        LeafFalls now = withSheet(one, 1, 7);
        DUE.keeps("fits(2, 0, 0) at once", now, () -> now.fits(2, 0, 0), 5);
        DUE.keeps("fits(2, 0, 1) at once", now, () -> now.fits(2, 0, 1), 0);
        LeafFalls wrong = withSheet(one, 2, 3);
        DUE.keeps("fits(2, 0, 0) of another sign", wrong, () -> wrong.fits(2, 0, 0), 0);
        DUE.keeps("fits(2, 0, 1) of another sign", wrong, () -> wrong.fits(2, 0, 1), -3);
        LeafFalls odd = withSheet(one, 2, -2);
        DUE.keeps("fits(2, 0, 0) of no sign", odd, () -> odd.fits(2, 0, 0), 0);
        LeafFalls eleven = withSheet(one, 2, 11);
        DUE.keeps("fits(2, 0, 0) of no sign", eleven, () -> eleven.fits(2, 0, 0), 0);
        // the other one's sign counts as well, and so does one that has fallen
        LeafFalls two = withSheet("leaf on 0 hold 8 sign 3; leaf on 0 hold 9 sign 4;", 0, 10, 3, 4);
        DUE.keeps("fits(2, 0, 0) of two", two, () -> two.fits(2, 0, 0), 4);
        DUE.keeps("fits(2, 0, 1) of two", two, () -> two.fits(2, 0, 1), 5);
        DUE.keeps("fits(2, 1, 0) of two", two, () -> two.fits(2, 1, 0), 4);
        DUE.keeps("fits(2, 1, 1) of two", two, () -> two.fits(2, 1, 1), 9);
        two.pluck(0);
        two.put(2, 1, 10);
        DUE.keeps("fits(2, 0, 0) of one that has fallen", two, () -> two.fits(2, 0, 0), 100);
        two.put(2, 2, 3);
        DUE.keeps("fits(2, 0, 1) of one that has fallen", two, () -> two.fits(2, 0, 1), -3);
        LeafFalls x = withSheet(one, 1, 7);
        DUE.keeps("fits(4, 0, 0)", x, () -> x.fits(4, 0, 0), -1);
        DUE.keeps("fits(-1, 0, 0)", x, () -> x.fits(-1, 0, 0), -1);
        DUE.keeps("fits(2, 1, 0)", x, () -> x.fits(2, 1, 0), -1);
        DUE.keeps("fits(2, -1, 0)", x, () -> x.fits(2, -1, 0), -1);
        DUE.keeps("fits(2, 0, 2)", x, () -> x.fits(2, 0, 2), -1);
        DUE.keeps("fits(2, 0, -1)", x, () -> x.fits(2, 0, -1), -1);
        DUE.keeps("fits(1, 0, 0)", x, () -> x.fits(1, 0, 0), -11);
        DUE.keeps("fits(1, 0, 1)", x, () -> x.fits(1, 0, 1), -11);
        DUE.keeps("fits(1, 1, 0)", x, () -> x.fits(1, 1, 0), -1);
        DUE.keeps("fits(1, 0, 2)", x, () -> x.fits(1, 0, 2), -1);
        x.sheet(2, 1, 40);
        for (int i = 0; i < 40; i++) {
            x.put(2, i, i == 24 ? 7 : 10);
        }
        DUE.keeps("fits(2, 0, 0) of forty days", x, () -> x.fits(2, 0, 0), 3);
        DUE.keeps("fits(2, 0, 1) of forty days", x, () -> x.fits(2, 0, 1), 97);
    }

    private static void oddsAre(LeafFalls x, int n, int k, long above, long below) {
        DUE.keeps("odds(" + n + ", " + k + ", 0)", x, () -> x.odds(n, k, 0), above);
        DUE.keeps("odds(" + n + ", " + k + ", 1)", x, () -> x.odds(n, k, 1), below);
    }

    private static void odds() {
        DUE.promise(30, "odds");
        LeafFalls x = new LeafFalls();
        oddsAre(x, 0, 0, 1, 1);
        oddsAre(x, 1, 0, 4, 5);
        oddsAre(x, 1, 1, 1, 5);
        oddsAre(x, 3, 0, 64, 125);
        oddsAre(x, 3, 1, 48, 125);
        oddsAre(x, 3, 2, 12, 125);
        oddsAre(x, 3, 3, 1, 125);
        x.set(3, 50);
        oddsAre(x, 8, 4, 35, 128);
        oddsAre(x, 8, 8, 1, 256);
        oddsAre(x, 7, 3, 35, 128);
        oddsAre(x, 2, 1, 1, 2);
        x.set(3, 99);
        oddsAre(x, 8, 8, 9227446944279201L, 10000000000000000L);
        oddsAre(x, 8, 0, 1, 10000000000000000L);
        oddsAre(x, 2, 1, 99, 5000);
        x.set(3, 1);
        oddsAre(x, 8, 0, 9227446944279201L, 10000000000000000L);
        // 56 * 99^5 of 100^8, by 8 parted on both sides
        oddsAre(x, 8, 3, 66569303493L, 1250000000000000L);
        x.set(3, 0);
        oddsAre(x, 5, 0, 1, 1);
        oddsAre(x, 5, 1, 0, 1);
        oddsAre(x, 0, 0, 1, 1);
        int[][] bad = {{-1, 0, 0}, {9, 0, 0}, {3, -1, 0}, {3, 4, 0}, {0, 1, 0}, {3, 1, -1}, {3, 1, 2}, {-1, -1, 0}, {MAX, 1, 0}, {MIN, MIN, 0}, {8, MAX, 1}};
        for (int[] b : bad) {
            DUE.keeps("odds(" + b[0] + ", " + b[1] + ", " + b[2] + ")", x, () -> x.odds(b[0], b[1], b[2]), -1);
        }
    }

    private static void hopeIs(LeafFalls x, int n, long above, long below) {
        DUE.keeps("hope(" + n + ", 0)", x, () -> x.hope(n, 0), above);
        DUE.keeps("hope(" + n + ", 1)", x, () -> x.hope(n, 1), below);
    }

    private static void hope() {
        DUE.promise(31, "hope");
        LeafFalls x = new LeafFalls();
        hopeIs(x, 0, 0, 1);
        hopeIs(x, 1, 1, 5);
        hopeIs(x, 5, 1, 1);
        hopeIs(x, 7, 7, 5);
        hopeIs(x, 99, 99, 5);
        x.set(3, 99);
        hopeIs(x, 99, 9801, 100);
        hopeIs(x, 50, 99, 2);
        x.set(3, 0);
        hopeIs(x, 99, 0, 1);
        DUE.keeps("hope(-1, 0)", x, () -> x.hope(-1, 0), -1);
        DUE.keeps("hope(100, 0)", x, () -> x.hope(100, 0), -1);
        DUE.keeps("hope(5, 2)", x, () -> x.hope(5, 2), -1);
        DUE.keeps("hope(5, -1)", x, () -> x.hope(5, -1), -1);
        DUE.keeps("hope(max, 0)", x, () -> x.hope(MAX, 0), -1);
    }
}
