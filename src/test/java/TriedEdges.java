/** Promises 21 to 31: what is tried, and odds of gales. */
final class TriedEdges {
    /** One a day is lost on every bough. */
    private static final String CALM = "wind 0; sway 0 is 0; sway 1 is 0; sway 2 is 0; sway 3 is 0; sway 4 is 0; sway 5 is 0;\"";

    static void play(Edges e) {
        tried(e);
        falls(e);
        bare(e);
        next(e);
        latest(e);
        boughFor(e);
        kindFor(e);
        holdFor(e);
        tiedFor(e);
        tiedOnes(e);
        fits(e);
        fitsRefused(e);
        odds(e);
        hope(e);
    }

    private static void tried(Edges e) {
        e.edge(21, "What is asked here is TRIED; nothing changes.", """
            "evergreen on 0 hold 30 sign 1; yellow on 0 hold 20 sign 2; gold on 0 hold 9 sign 3; red on 1 hold 12 sign 3; scarlet on 2 hold 50; wind 1;" = 5
            days(2) = 5  sheet(0, 1, 4) = 1  put(0, 3, -1) = 1  keep() = 1  seed(5) = 1
            falls(1) ! 11  bare() ! 44  next() ! 3  latest() ! 0  boughFor(3) ! 0  kindFor(3) ! 5  holdFor(3, 5) ! 21  tiedFor(3, 1) ! -3
            fits(0, 3, 0) ! 0  lost(30) ! 1
            """,
            // from how it is now, not from what was kept
            "leaf(0, 0, 9, 0) = 0  pluck(0) = 0  keep() = 1  \"leaf on 1 hold 9;\" = 1  falls(0) ! 3  bare() ! 3  next() ! 0  latest() ! 0  boughFor(0) ! 0  kindFor(0) ! 5  holdFor(0, 1) ! 5"
                + "  tiedFor(0, 2) ! 0  tiedFor(0, 3) ! -3");
    }

    private static void falls(Edges e) {
        e.edge(21, "FALLS of one: behind the fewest DAYS (0 to 60) it has FALLEN first.",
            "\"leaf on 0 hold 60; leaf on 1 hold 61;" + CALM + " = 2  falls(0) ! 60  falls(1) ! -3  days(1) = 2  falls(0) ! 59  falls(1) ! 60",
            // a hold of 0 or 1 goes on the first day; one that has fallen already has so behind no days
            "\"leaf on 0 hold 0;" + CALM + " = 1  falls(0) ! 1  hold(0, 1) = 0  falls(0) ! 1  hold(0, 2) = 1  falls(0) ! 2  days(2) = 0  falls(0) ! 0",
            // one has to wait for another one: on the 60th day, and on the 61st
            "\"leaf on 0 hold 59; leaf on 0 hold 59;" + CALM + " = 2  falls(0) ! 59  falls(1) ! 60  hold(0, 60) = 59  hold(1, 60) = 59  falls(0) ! 60  falls(1) ! -3");
        e.edge(21, "FALLS of one. BAD; NONE: not by then.",
            "\"leaf on 0 hold 10 sign 4; leaf on 0 hold 10 sign 5; leaf on 1 hold 10 sign 0;\" = 3  falls(1) ! 3  falls(0) ! 4  falls(2) ! 5  falls(3) ! -1"
                + "  falls(-1) ! -1  falls(MAX) ! -1  falls(MIN) ! -1  days(1) = 3  falls(1) ! 2  pluck(0) = 2  falls(0) ! 0  falls(2) ! 3",
            "falls(0) ! -1  leaf(0, 0, 9, 0) = 0  falls(0) ! 3  falls(1) ! -1  leaf(0, 0, 9, 0) = 1  falls(1) ! 4  falls(2) ! -1",
            // leaves of a text that was refused, or that are gone, are none
            "leaf(0, 0, 9, 0) = 0  \"leaf on 1;leaf on 1;x\" ! -120  falls(0) ! 3  falls(1) ! -1  \"leaf on 1;leaf on 1;\" = 2  falls(1) ! 4  autumn() = 0  falls(0) ! -1");
    }

    private static void bare(Edges e) {
        e.edge(22, "BARE: behind the fewest (0 to 60) none HANGS first.",
            "bare() ! 0",
            "\"leaf on 0 hold 60;" + CALM + " = 1  bare() ! 60  hold(0, 61) = 60  bare() ! -3  hold(0, 1) = 61  bare() ! 1  pluck(0) = 0  bare() ! 0",
            "\"leaf on 0 hold 59; leaf on 0 hold 59;" + CALM + " = 2  bare() ! 60  hold(0, 60) = 59  hold(1, 60) = 59  bare() ! -3");
        e.edge(22, "BARE. NONE: not by then.",
            "\"leaf on 0 hold 10 sign 4; leaf on 0 hold 10 sign 5;\" = 2  bare() ! 4  pluck(0) = 1  bare() ! 3  days(1) = 1  bare() ! 2",
            "\"leaf on 0 hold 99; leaf on 1 hold 5;" + CALM + " = 2  bare() ! -3");
    }

    private static void next(Edges e) {
        e.edge(23, "NEXT: the one that FALLS first of all that HANG, within 60 DAYS.",
            "\"leaf on 0 hold 61; leaf on 0 hold 60;" + CALM + " = 2  next() ! 1  hold(1, 61) = 60  next() ! -3  hold(0, 60) = 61  next() ! 0",
            "\"leaf on 0 hold 9 sign 4; leaf on 0 hold 10 sign 5; leaf on 0 hold 3 sign 0;\" = 3  next() ! 2  pluck(2) = 2  next() ! 1  mind(1, 0, 4) = 0  next() ! 0");
        e.edge(23, "NEXT. NONE: none by then.", "next() ! -3", "leaf(0, 0, 9, 0) = 0  next() ! 0  pluck(0) = 0  next() ! -3");
    }

    private static void latest(Edges e) {
        e.edge(24, "LATEST: the one that HANGS and FALLS last (one that doesn't within 60 DAYS later than all); of several the least.",
            "\"leaf on 0 hold 60; leaf on 0 hold 61; leaf on 1 hold 99;" + CALM + " = 3  latest() ! 1  hold(0, 61) = 60  latest() ! 0"
                + "  hold(0, 60) = 61  hold(1, 59) = 61  latest() ! 2  hold(2, 58) = 99  latest() ! 0",
            // the last one falls on the 60th day; the last one doesn't any more
            "\"leaf on 0 hold 60; leaf on 0 hold 59;" + CALM + " = 2  latest() ! 0  hold(0, 59) = 60  latest() ! 1  hold(1, 60) = 59  latest() ! 1  hold(0, 60) = 59  latest() ! 1",
            "\"leaf on 0 hold 9 sign 4; leaf on 0 hold 10 sign 5; leaf on 0 hold 3 sign 0;\" = 3  latest() ! 0  pluck(0) = 2  latest() ! 1  pluck(1) = 1  latest() ! 2");
        e.edge(24, "LATEST. NONE: none HANGS.", "latest() ! -3", "leaf(0, 0, 99, 0) = 0  latest() ! 0  pluck(0) = 0  latest() ! -3  leaf(0, 0, 0, 0) = 1  latest() ! 1");
    }

    private static void boughFor(Edges e) {
        e.edge(25, "BOUGH FOR one that HANGS: the BOUGH ON which, were it there now, it FALLS last (not within 60 DAYS: later than all); of several the least.",
            "\"leaf on 2 hold 30; sway 0 is 3; sway 1 is 2; sway 3 is 0; sway 4 is 0;\" = 1  boughFor(0) ! 3  sway(3, 1) = 0  boughFor(0) ! 4  sway(5, 0) = 1"
                + "  boughFor(0) ! 4  sway(4, 9) = 0  boughFor(0) ! 5  hold(0, 0) = 30  boughFor(0) ! 0",
            // 61 days and 60 days; and both beyond 60
            "\"leaf on 2 hold 61; wind 0; sway 1 is 0;\" = 1  boughFor(0) ! 1  sway(3, 0) = 1  boughFor(0) ! 1",
            "\"leaf on 2 hold 60; wind 0; sway 0 is 1; sway 4 is 0;\" = 1  boughFor(0) ! 4  hold(0, 61) = 60  boughFor(0) ! 4  hold(0, 1) = 61  boughFor(0) ! 0",
            // a yellow one wants mates
            "\"yellow on 0 hold 9; evergreen on 3 hold 99; evergreen on 3 hold 99;\" = 3  boughFor(0) ! 3",
            // a scarlet one's rank goes by its bough: on 0 and 1 it lets the other one go first, but 0 sways too much
            "\"scarlet on 5 hold 0 sign 1; leaf on 0 hold 0 sign 6;\" = 2  boughFor(0) ! 0  mind(1, 0, 3) = 0  boughFor(0) ! 0",
            "\"scarlet on 5 hold 20 sign 1; leaf on 5 hold 8 sign 6; sway 0 is 9;\" = 2  boughFor(0) ! 1");
        e.edge(25, "BOUGH FOR one. BAD; NONE: it has FALLEN.",
            "boughFor(0) ! -1  leaf(0, 0, 0, 0) = 0  boughFor(0) ! 0  boughFor(1) ! -1  boughFor(-1) ! -1  boughFor(MAX) ! -1  boughFor(MIN) ! -1  pluck(0) = 0  boughFor(0) ! -3");
    }

    private static void kindFor(Edges e) {
        e.edge(26, "KIND FOR one that HANGS: the KIND as one of which it FALLS last (likewise); of several the least.",
            "\"leaf on 2 hold 30;\" = 1  kindFor(0) ! 5  hold(0, 0) = 30  kindFor(0) ! 0  hold(0, 4) = 0  kindFor(0) ! 0  hold(0, 5) = 4  kindFor(0) ! 5",
            // within 60 days or not: a leaf of 61, and of 60, where a yellow one gains by three lasting mates
            "\"red on 2 hold 61; evergreen on 2 hold 99; evergreen on 2 hold 99; evergreen on 2 hold 99; wind 0; sway 2 is 0;\" = 4  kindFor(0) ! 0"
                + "  hold(0, 60) = 61  kindFor(0) ! 2  hold(0, 10) = 60  kindFor(0) ! 2  set(2, 0) = 1  kindFor(0) ! 2",
            // of several without hold the one of least rank lasts
            "\"leaf on 0 hold 0 sign 9; leaf on 1 hold 0 sign 0; leaf on 1 hold 0 sign 0;\" = 3  kindFor(0) ! 5",
            "\"scarlet on 5 hold 0 sign 9; red on 1 hold 0 sign 0; red on 1 hold 0 sign 0;\" = 3  kindFor(0) ! 2",
            "\"leaf on 0 hold 0 sign 5; leaf on 1 hold 0 sign 9; leaf on 1 hold 0 sign 6;\" = 3  kindFor(0) ! 0  mind(2, 0, 5) = 0  kindFor(0) ! 5");
        e.edge(26, "KIND FOR one. BAD; NONE: it has FALLEN.",
            "kindFor(0) ! -1  leaf(0, 0, 0, 0) = 0  kindFor(0) ! 0  kindFor(1) ! -1  kindFor(-1) ! -1  kindFor(MAX) ! -1  kindFor(MIN) ! -1  pluck(0) = 0  kindFor(0) ! -3");
    }

    private static void holdFor(Edges e) {
        e.edge(27, "HOLD FOR one, n: the least HOLD (0 to 99) with which it HANGS behind n DAYS.",
            "\"leaf on 0 hold 0;\" = 1  holdFor(0, 1) ! 5  holdFor(0, 3) ! 13  holdFor(0, 20) ! 81  set(0, 3) = 2  holdFor(0, 19) ! 96  holdFor(0, 20) ! -3"
                + "  set(0, 9) = 3  holdFor(0, 8) ! 89  holdFor(0, 9) ! -3",
            // 99 is enough, but just
            "\"leaf on 0 hold 0; leaf on 1 hold 0; wind 5; sway 0 is 1;\" = 2  holdFor(0, 14) ! 99  holdFor(0, 15) ! -3",
            // none is needed while another one goes first, or where it gains
            "\"leaf on 0 hold 50 sign 1; leaf on 0 hold 0 sign 2;\" = 2  holdFor(0, 1) ! 0  holdFor(0, 2) ! 9  holdFor(1, 1) ! 5",
            "\"yellow on 0 hold 9; evergreen on 0 hold 99; evergreen on 0 hold 99; wind 0; sway 0 is 0;\" = 3  holdFor(0, 20) ! 0");
        e.edge(27, "of several the first named: BAD (-1) there is no such thing, or a number is not as told; FULL (-2); NONE (-3)",
            "leaf(0, 0, 9, 0) = 0  pluck(0) = 0  holdFor(0, 20) ! -3  holdFor(0, 21) ! -1  tiedFor(0, 20) ! -3  tiedFor(0, 21) ! -1  fits(0, 0, 2) ! -1  fits(0, 0, 1) ! -11");
        e.edge(27, "HOLD FOR one, n (1 to 20). BAD; NONE: with none (also if it has FALLEN).",
            "holdFor(0, 1) ! -1  leaf(0, 0, 0, 0) = 0  holdFor(0, 1) ! 5  holdFor(0, 20) ! 81  holdFor(0, 0) ! -1  holdFor(0, 21) ! -1  holdFor(0, MIN) ! -1  holdFor(0, MAX) ! -1"
                + "  holdFor(1, 1) ! -1  holdFor(-1, 1) ! -1  holdFor(MAX, 1) ! -1  holdFor(MIN, 1) ! -1  set(0, 9) = 2  holdFor(0, 20) ! -3"
                + "  set(0, 0) = 9  pluck(0) = 0  holdFor(0, 1) ! -3  holdFor(0, 0) ! -1  holdFor(0, 21) ! -1");
    }

    private static void tiedFor(Edges e) {
        String sentence = "TIED FOR one, n: the set of fewest others that HANG such that, if these LOSE nothing and don't FALL, it HANGS behind n DAYS; of several the least.";
        e.edge(28, sentence,
            // a yellow one loses 1 less its mates; a mate of hold 2 falls on the second day
            "\"yellow on 0 hold 1; leaf on 0 hold 2;" + CALM + " = 2  tiedFor(0, 2) ! 0  tiedFor(0, 3) ! 2  tiedFor(0, 20) ! 2  tiedFor(1, 1) ! 0  tiedFor(1, 2) ! -3"
                + "  falls(1) = 2  bare() = 3",
            // of several sets of one the least; one that has fallen can't be tied; nor can it itself
            "\"leaf on 0 hold 2; yellow on 0 hold 1; leaf on 0 hold 2;" + CALM + " = 3  tiedFor(1, 20) ! 1  pluck(0) = 2  tiedFor(1, 20) ! 4  pluck(2) = 1  tiedFor(1, 20) ! -3"
                + "  tiedFor(1, 1) ! -3  hold(1, 2) = 1  tiedFor(1, 1) ! 0  tiedFor(1, 2) ! -3");
        // Yellow loses 3 less its mates. Untied 3 falls on day 1, 1 and 2 on days 6 and 7, and 0 itself on day 9.
        // Fewest comes before least: behind 10 days 3 alone (8) does as well as 1 and 2 (6).
        e.edge(28, sentence, "\"yellow on 0 hold 13 sign 9; leaf on 0 hold 18; leaf on 0 hold 18; leaf on 0 hold 3; wind 1;\" = 4  tiedFor(0, 8) ! 0  tiedFor(0, 9) ! 2"
            + "  tiedFor(0, 10) ! 8  tiedFor(0, 12) ! 8  tiedFor(0, 13) ! 6  tiedFor(0, 14) ! 10  tiedFor(0, 18) ! 10  tiedFor(0, 19) ! 14  tiedFor(0, 20) ! 14"
            + "  hold(0, 0) = 13  tiedFor(0, 1) ! -3");
        // yellow loses 8 less its mates, and each mate that isn't tied falls within days: all seven are wanted
        e.edge(28, sentence, "\"yellow on 0 hold 21;" + "leaf on 0 hold 1;".repeat(7) + "wind 6;\" = 8  tiedFor(0, 20) ! 254  hold(0, 20) = 21  tiedFor(0, 19) ! 254  tiedFor(0, 20) ! -3",
            "\"" + "leaf on 0 hold 1;".repeat(7) + "yellow on 0 hold 21;wind 6;\" = 8  tiedFor(7, 20) ! 127");
        e.edge(28, "TIED FOR one, n (1 to 20). BAD; NONE: by no set (also if it has FALLEN).",
            "tiedFor(0, 1) ! -1  leaf(0, 0, 99, 0) = 0  tiedFor(0, 1) ! 0  tiedFor(0, 20) ! 0  tiedFor(0, 0) ! -1  tiedFor(0, 21) ! -1  tiedFor(0, MIN) ! -1  tiedFor(0, MAX) ! -1"
                + "  tiedFor(1, 1) ! -1  tiedFor(-1, 1) ! -1  tiedFor(MAX, 1) ! -1  tiedFor(MIN, 1) ! -1  hold(0, 80) = 99  tiedFor(0, 19) ! 0  tiedFor(0, 20) ! -3"
                + "  pluck(0) = 0  tiedFor(0, 1) ! -3  tiedFor(0, 0) ! -1  tiedFor(0, 21) ! -1");
    }

    private static void tiedOnes(Edges e) {
        // those tied don't fall, and so don't go first instead of another one; they lose nothing, and so gain nothing
        e.edge(28, "if these LOSE nothing and don't FALL",
            "\"leaf on 0 hold 0 sign 1; leaf on 1 hold 0 sign 9;\" = 2  tiedFor(0, 1) ! 0  tiedFor(0, 2) ! -3",
            "\"leaf on 0 hold 8 sign 1; leaf on 1 hold 0 sign 9;\" = 2  tiedFor(0, 2) ! -3",
            // a tied one with a hold of 0 is a mate for as long as it takes
            "\"yellow on 0 hold 1; leaf on 0 hold 0 sign 9;" + CALM + " = 2  tiedFor(0, 1) ! 0  tiedFor(0, 2) ! 2  tiedFor(0, 20) ! 2");
    }

    private static String sheet(int sort, int... items) {
        StringBuilder sheet = new StringBuilder(" sheet(2, " + sort + ", " + items.length + ") = 1 ");
        for (int i = 0; i < items.length; i++) {
            sheet.append("put(2, ").append(i).append(", ").append(items[i]).append(") = 1 ");
        }
        return sheet.toString();
    }

    /** Days on which nobody falls, but a 7 on one. */
    private static int[] tens(int n, int seven) {
        int[] tens = new int[n];
        for (int i = 0; i < n; i++) {
            tens[i] = i == seven ? 7 : 10;
        }
        return tens;
    }

    private static void fits(Edges e) {
        String one = "\"leaf on 0 hold 50 sign 7;\" = 1 ";
        String sentence = "FITS of one by a SHEET: those HOLDS (0 to 99) of it now with which, on the next DAYS, one by one, the SIGN of the one that FALLS (10: none does)"
            + " is what the numbers of the SHEET tell (-1: any).";
        for (int sort = 0; sort < 4; sort++) {
            // 5 to 8 fall on the second day
            e.edge(29, sentence, one + sheet(sort, 10, 7) + "fits(2, 0, 0) ! 4  fits(2, 0, 1) ! 5",
                one + sheet(sort, -1, -1, 10) + "fits(2, 0, 0) ! 96  fits(2, 0, 1) ! 0", one + sheet(sort, -1) + "fits(2, 0, 0) ! 100  fits(2, 0, 1) ! 0");
        }
        e.edge(29, sentence,
            // no days; at once; another sign; what is no sign
            one + sheet(1) + "fits(2, 0, 0) ! 100  fits(2, 0, 1) ! 0",
            one + sheet(1, 7) + "fits(2, 0, 0) ! 5  fits(2, 0, 1) ! 0",
            one + sheet(1, 10) + "fits(2, 0, 0) ! 95  fits(2, 0, 1) ! 5",
            one + sheet(2, 3) + "fits(2, 0, 0) ! 0  fits(2, 0, 1) ! -3",
            one + sheet(2, -2) + "fits(2, 0, 0) ! 0", one + sheet(2, 11) + "fits(2, 0, 0) ! 0", one + sheet(2, 9) + "fits(2, 0, 0) ! 0",
            // bytes and shorts are narrowed, ints are not
            one + sheet(0, 255, 266) + "fits(2, 0, 0) ! 96", one + sheet(1, 65535, 65546) + "fits(2, 0, 0) ! 96", one + sheet(2, 255) + "fits(2, 0, 0) ! 0",
            // 97, 98 and 99 fall on day 25; forty days are as many as a sheet has
            one + sheet(1, tens(24, 24)) + "fits(2, 0, 0) ! 3  fits(2, 0, 1) ! 97",
            one + sheet(1, tens(25, 25)) + "fits(2, 0, 0) ! 0  fits(2, 0, 1) ! -3",
            one + sheet(1, tens(25, 24)) + "fits(2, 0, 0) ! 3  fits(2, 0, 1) ! 97",
            one + sheet(1, tens(40, 24)) + "fits(2, 0, 0) ! 3  fits(2, 0, 1) ! 97  put(2, 39, 7) = 1  fits(2, 0, 0) ! 0");
        // the other one's sign counts as well, and so does one that has fallen: then its hold is all the same
        String two = "\"leaf on 0 hold 8 sign 3; leaf on 0 hold 9 sign 4;\" = 2 ";
        e.edge(29, sentence, two + sheet(0, 10, 3, 4) + "fits(2, 0, 0) ! 4  fits(2, 0, 1) ! 5  fits(2, 1, 0) ! 4  fits(2, 1, 1) ! 9  pluck(0) = 1  fits(2, 0, 0) ! 0"
            + "  put(2, 1, 10) = 1  fits(2, 0, 0) ! 100  fits(2, 0, 1) ! 0  put(2, 2, 3) = 1  fits(2, 0, 1) ! -3");
    }

    private static void fitsRefused(Edges e) {
        e.edge(29, "FITS: what = 0 how many HOLDS, 1 the least. BAD: no such SHEET, one, what; -11; NONE (what 1): none.", """
            "leaf on 0 hold 50 sign 7;" = 1  sheet(0, 0, 1) = 1  sheet(2, 1, 1) = 1  sheet(3, 2, 1) = 1  put(2, 0, 7) = 1  put(3, 0, 10) = 1
            fits(0, 0, 0) ! 0  fits(0, 0, 1) ! -3  fits(2, 0, 0) ! 5  fits(3, 0, 0) ! 95  fits(3, 0, 1) ! 5
            fits(-1, 0, 0) ! -1  fits(4, 0, 0) ! -1  fits(MIN, 0, 0) ! -1  fits(MAX, 0, 0) ! -1
            fits(2, -1, 0) ! -1  fits(2, 1, 0) ! -1  fits(2, MIN, 0) ! -1  fits(2, MAX, 0) ! -1
            fits(2, 0, -1) ! -1  fits(2, 0, 2) ! -1  fits(2, 0, MIN) ! -1  fits(2, 0, MAX) ! -1
            """, """
            "leaf on 0 hold 50 sign 7;" = 1  fits(1, 0, 0) ! -11  fits(1, 0, 1) ! -11  fits(1, 1, 0) ! -1  fits(1, -1, 0) ! -1  fits(1, 0, 2) ! -1  fits(1, 0, -1) ! -1
            """, "sheet(0, 0, 1) = 1  fits(0, 0, 0) ! -1");
    }

    private static String oddsAre(int n, int k, long above, long below) {
        return "odds(" + n + ", " + k + ", 0) ! " + above + "  odds(" + n + ", " + k + ", 1) ! " + below + " ";
    }

    private static void odds(Edges e) {
        e.edge(30, "ODDS by n (0 to 8), k (0 to n): a part of them. BAD.",
            oddsAre(0, 0, 1, 1) + oddsAre(8, 0, 65536, 390625) + oddsAre(8, 8, 1, 390625) + oddsAre(3, 3, 1, 125)
                + "odds(-1, 0, 0) ! -1  odds(9, 0, 0) ! -1  odds(MIN, 0, 0) ! -1  odds(MAX, 0, 0) ! -1  odds(-1, -1, 0) ! -1  odds(9, 9, 0) ! -1",
            "odds(3, -1, 0) ! -1  odds(3, 4, 0) ! -1  odds(0, 1, 0) ! -1  odds(8, 9, 1) ! -1  odds(8, MAX, 1) ! -1  odds(8, MIN, 1) ! -1"
                + "  odds(3, 1, -1) ! -1  odds(3, 1, 2) ! -1  odds(3, 1, MAX) ! -1  odds(3, 1, MIN) ! -1");
        e.edge(30, "ODDS by n, k: that of n days just k have gales, each by GALE of a hundred.",
            oddsAre(1, 0, 4, 5) + oddsAre(1, 1, 1, 5) + oddsAre(3, 0, 64, 125) + oddsAre(3, 1, 48, 125) + oddsAre(3, 2, 12, 125),
            "set(3, 50) = 20 " + oddsAre(8, 4, 35, 128) + oddsAre(8, 8, 1, 256) + oddsAre(7, 3, 35, 128) + oddsAre(2, 1, 1, 2),
            "set(3, 99) = 20 " + oddsAre(8, 8, 9227446944279201L, 10000000000000000L) + oddsAre(8, 0, 1, 10000000000000000L) + oddsAre(2, 1, 99, 5000),
            // 56 * 99^5 of 100^8, by 8 parted on both sides
            "set(3, 1) = 20 " + oddsAre(8, 0, 9227446944279201L, 10000000000000000L) + oddsAre(8, 3, 66569303493L, 1250000000000000L) + oddsAre(1, 1, 1, 100));
        e.edge(30, "A part of a fraction: 0 above the line, 1 below it, without a common divisor, below above 0 (0 is 0 by 1).",
            "set(3, 0) = 20 " + oddsAre(5, 0, 1, 1) + oddsAre(5, 1, 0, 1) + oddsAre(0, 0, 1, 1) + oddsAre(8, 8, 0, 1),
            "set(3, 10) = 20 " + oddsAre(1, 1, 1, 10) + oddsAre(2, 1, 9, 50));
    }

    private static void hope(Edges e) {
        e.edge(31, "HOPE by n (0 to 99): a part of it. BAD.",
            "hope(0, 0) ! 0  hope(0, 1) ! 1  hope(99, 0) ! 99  hope(99, 1) ! 5  hope(-1, 0) ! -1  hope(100, 0) ! -1  hope(MIN, 0) ! -1  hope(MAX, 0) ! -1"
                + "  hope(5, -1) ! -1  hope(5, 2) ! -1  hope(5, MIN) ! -1  hope(5, MAX) ! -1",
            "set(3, 30) = 20  hope(0, 0) ! 0  hope(0, 1) ! 1  hope(-1, 0) ! -1  hope(-1, 1) ! -1  hope(-99, 0) ! -1  hope(100, 0) ! -1  hope(100, 1) ! -1");
        e.edge(31, "HOPE by n: how many have on average.",
            "hope(1, 0) ! 1  hope(1, 1) ! 5  hope(5, 0) ! 1  hope(5, 1) ! 1  hope(7, 0) ! 7  hope(7, 1) ! 5",
            "set(3, 99) = 20  hope(99, 0) ! 9801  hope(99, 1) ! 100  hope(50, 0) ! 99  hope(50, 1) ! 2",
            "set(3, 0) = 20  hope(99, 0) ! 0  hope(99, 1) ! 1");
    }
}
