import java.util.ArrayList;
import java.util.List;

/** Runs of calls on the class and on the model, side by side: every answer must be the same. */
public final class ModelTest {
    private static final int RUNS = 4000;
    private static final int CALLS = 512;
    /** As many calls as one step may take, and as a look at everything may take at most. */
    private static final int STEP = 30;
    private static final int LOOK = 365;
    private static final String[] SCRAPS = {
        "leaf on 1;", "red on 2 hold 30;", "yellow on 1 sign 4;", "scarlet on 5 hold 44 sign 9;", "gold on 1 hold 12 sign 7;",
        "evergreen on 0 hold 3;", "sway 1 is 0;", "sway 3 is 9;", "wind 0;", "wind 3;", "cold 9;", "wet 5;", "gale 60;", " ", "  ",
        "leaf", "on", "hold", "sign", "is", ";", "7", "12", "99", "100", "0005", "x", "L", "\n", "leaf on1hold9;", "rose on 2;"
    };

    private final Due due = new Due("ModelTest");
    private long z;
    private LeafFalls x;
    private Model m;
    private final List<String> calls = new ArrayList<>();
    private boolean right;
    private int told;

    public static void main(String[] args) {
        new ModelTest().run();
    }

    private int below(int n) {
        z = z * 6364136223846793005L + 1442695040888963407L;
        return (int) ((z >>> 33) % n);
    }

    /** Mostly 0 to most, now and then beside it. */
    private int about(int most) {
        int dice = below(40);
        return dice == 0 ? -1 : dice == 1 ? most + 1 : dice == 2 ? below(2) * -1 + Integer.MIN_VALUE + below(2) : below(most + 1);
    }

    private int any() {
        int dice = below(6);
        return dice == 0 ? Integer.MAX_VALUE - below(3) : dice == 1 ? Integer.MIN_VALUE + below(3) : below(401) - 200;
    }

    private int leafs() {
        return below(30) == 0 ? about(7) : m.now.leaves.isEmpty() ? 0 : below(m.now.leaves.size());
    }

    private void run() {
        for (int run = 0; run < RUNS; run++) {
            z = run * 7919L + 13;
            x = new LeafFalls();
            m = new Model();
            calls.clear();
            right = true;
            int dry = below(3);
            if (dry > 0) {
                plant(dry);
            }
            boolean looks = below(2) == 0;
            while (right && calls.size() < CALLS - STEP - (looks ? LOOK : 0)) {
                step(below(97));
            }
            if (right && looks) {
                all();
            }
            due.due("run " + run + " takes no more than 512 calls", calls.size() <= CALLS ? 1 : 0, 1);
            due.due("run " + run + " is right", right ? 1 : 0, 1);
        }
        due.close();
    }

    private void same(String call, long got, long want) {
        calls.add(call + " -> " + got);
        due.due(call, got, want);
        if (got != want && right) {
            right = false;
            told++;
            System.out.println("the run:" + (told > 2 ? " .." : "\n  " + String.join("\n  ", calls)));
        }
    }

    private void plant(int dry) {
        int count = 1 + below(8);
        for (int i = 0; i < count; i++) {
            int kind = below(6);
            int bough = below(dry == 1 ? 2 : 6);
            int hold = dry == 1 ? below(100) : below(30);
            int sign = below(dry == 1 ? 10 : 4);
            same("leaf(" + kind + ", " + bough + ", " + hold + ", " + sign + ")", x.leaf(kind, bough, hold, sign), m.leaf(kind, bough, hold, sign));
        }
        for (int law = 0; law < 3; law++) {
            int v = below(dry == 1 ? 3 : 10);
            same("set(" + law + ", " + v + ")", x.set(law, v), m.set(law, v));
        }
        for (int b = 0; b < 6 && dry == 1; b++) {
            int v = below(3);
            same("sway(" + b + ", " + v + ")", x.sway(b, v), m.sway(b, v));
        }
    }

    private void step(int dice) {
        if (dice < 8) {
            tape();
        } else if (dice < 40) {
            change();
        } else if (dice < 62) {
            tries();
        } else if (dice < 80) {
            rowsAndSheets();
        } else {
            asks();
        }
    }

    private void tape() {
        if (below(4) > 0) {
            long eight = (long) any() * any();
            int n = about(8);
            if (below(3) > 0) {
                n = 1 + below(8);
                String scrap = SCRAPS[below(SCRAPS.length)];
                eight = 0;
                for (int i = 0; i < n; i++) {
                    eight |= (long) (i < scrap.length() ? scrap.charAt(i) : ' ') << (8 * i);
                }
            }
            same("feed(" + eight + "L, " + n + ")", x.feed(eight, n), m.feed(eight, n));
            return;
        }
        if (below(2) == 0) {
            same("autumn() of \"" + m.tape + "\"", x.autumn(), m.autumn());
        }
        StringBuilder text = new StringBuilder();
        int count = below(12);
        boolean sound = below(4) > 0;
        for (int i = 0; i < count; i++) {
            text.append(SCRAPS[below(sound ? 15 : SCRAPS.length)]);
        }
        if (text.length() > 0 && below(4) == 0) {
            int at = below(text.length());
            if (below(2) == 0) {
                text.setLength(at);
            } else {
                text.setCharAt(at, (char) below(256));
            }
        }
        for (int at = 0; at < text.length(); at += 8) {
            int n = Math.min(8, text.length() - at);
            long eight = 0;
            for (int i = 0; i < n; i++) {
                eight |= (long) text.charAt(at + i) << (8 * i);
            }
            same("feed(" + eight + "L, " + n + ")", x.feed(eight, n), m.feed(eight, n));
        }
        same("autumn() of \"" + m.tape + "\"", x.autumn(), m.autumn());
    }

    private void change() {
        int a = leafs();
        int v = about(9);
        switch (below(14)) {
            case 0, 1 -> {
                int k = about(5);
                int b = about(5);
                int h = about(99);
                same("leaf(" + k + ", " + b + ", " + h + ", " + v + ")", x.leaf(k, b, h, v), m.leaf(k, b, h, v));
            }
            case 2 -> {
                int l = about(3);
                int w = l == 3 ? about(99) : v;
                same("set(" + l + ", " + w + ")", x.set(l, w), m.set(l, w));
            }
            case 3 -> {
                int k = about(5);
                same("mind(" + a + ", " + k + ", " + v + ")", x.mind(a, k, v), m.mind(a, k, v));
            }
            case 4, 5 -> {
                int h = about(99);
                same("hold(" + a + ", " + h + ")", x.hold(a, h), m.hold(a, h));
            }
            case 6 -> {
                int b = about(5);
                same("move(" + a + ", " + b + ")", x.move(a, b), m.move(a, b));
            }
            case 7 -> {
                if (below(3) == 0) {
                    same("pluck(" + a + ")", x.pluck(a), m.pluck(a));
                }
            }
            case 8 -> {
                int b = about(5);
                same("sway(" + b + ", " + v + ")", x.sway(b, v), m.sway(b, v));
            }
            case 9 -> {
                int n = below(4) == 0 ? about(60) : 1 + below(3);
                same("days(" + n + ")", x.days(n), m.days(n));
            }
            case 10 -> {
                int s = any();
                same("seed(" + s + ")", x.seed(s), m.seed(s));
            }
            case 11 -> same("day()", x.day(), m.day());
            case 12 -> {
                if (below(2) == 0) {
                    same("keep()", x.keep(), m.keep());
                }
            }
            default -> same("again()", x.again(), m.again());
        }
    }

    private void tries() {
        int a = leafs();
        int n = about(20);
        switch (below(12)) {
            case 0 -> same("falls(" + a + ")", x.falls(a), m.falls(a));
            case 1 -> same("bare()", x.bare(), m.bare());
            case 2 -> same("next()", x.next(), m.next());
            case 3 -> same("latest()", x.latest(), m.latest());
            case 4 -> same("boughFor(" + a + ")", x.boughFor(a), m.boughFor(a));
            case 5 -> same("kindFor(" + a + ")", x.kindFor(a), m.kindFor(a));
            case 6 -> same("holdFor(" + a + ", " + n + ")", x.holdFor(a, n), m.holdFor(a, n));
            case 7 -> same("tiedFor(" + a + ", " + n + ")", x.tiedFor(a, n), m.tiedFor(a, n));
            case 8 -> {
                int r = about(30);
                same("lost(" + r + ")", x.lost(r), m.lost(r));
            }
            case 9 -> {
                int p = about(1);
                int k = about(8);
                int o = about(8);
                same("odds(" + o + ", " + k + ", " + p + ")", x.odds(o, k, p), m.odds(o, k, p));
            }
            case 10 -> {
                int p = about(1);
                int h = about(99);
                same("hope(" + h + ", " + p + ")", x.hope(h, p), m.hope(h, p));
            }
            default -> fits(a);
        }
    }

    private void fits(int a) {
        int s = about(3);
        int w = about(1);
        if (below(2) == 0 && s >= 0 && s < 4) {
            // what really falls, or nearly
            int days = 1 + below(6);
            int sort = below(4);
            same("sheet(" + s + ", " + sort + ", " + days + ")", x.sheet(s, sort, days), m.sheet(s, sort, days));
            Model.State tried = m.now.copy();
            for (int i = 0; i < days; i++) {
                int f = tried.pass(0);
                int told = below(5) == 0 ? -1 : f < 0 ? 10 : tried.leaves.get(f).sign;
                same("put(" + s + ", " + i + ", " + told + ")", x.put(s, i, told), m.put(s, i, told));
            }
        }
        same("fits(" + s + ", " + a + ", " + w + ")", x.fits(s, a, w), m.fits(s, a, w));
    }

    private void rowsAndSheets() {
        int a = leafs();
        int s = about(3);
        int i = about(below(3) == 0 ? 40 : 8);
        int sort = about(3);
        switch (below(12)) {
            case 0 -> {
                int n = about(10);
                same("prove(" + a + ", " + n + ")", x.prove(a, n), m.prove(a, n));
            }
            case 1 -> {
                int w = about(2);
                int v = any();
                same("alterRow(" + i + ", " + w + ", " + v + ")", x.alterRow(i, w, v), m.alterRow(i, w, v));
            }
            case 2, 3 -> same("judge(" + a + ")", x.judge(a), m.judge(a));
            case 4, 5 -> {
                int n = about(4);
                same("minds(" + s + ", " + i + ", " + a + ", " + n + ")", x.minds(s, i, a, n), m.minds(s, i, a, n));
            }
            case 6 -> {
                int n = about(below(2) == 0 ? 40 : 8);
                int t = below(5) == 0 ? -1 : sort;
                same("sheet(" + s + ", " + t + ", " + n + ")", x.sheet(s, t, n), m.sheet(s, t, n));
            }
            case 7 -> {
                int v = below(2) == 0 ? any() : about(10);
                same("put(" + s + ", " + i + ", " + v + ")", x.put(s, i, v), m.put(s, i, v));
            }
            case 8, 9 -> {
                int w = about(2);
                int n = below(2) == 0 ? about(3) : a;
                same("shelf(" + s + ", " + w + ", " + n + ")", x.shelf(s, w, n), m.shelf(s, w, n));
            }
            default -> {
                int act = about(3);
                int v = any();
                same("act(" + s + ", " + act + ", " + v + ")", x.act(s, act, v), m.act(s, act, v));
            }
        }
    }

    private void asks() {
        int a = leafs();
        int s = about(3);
        int i = about(8);
        switch (below(13)) {
            case 0 -> same("of(" + a + ", " + i + ")", x.of(a, i), m.of(a, i));
            case 1 -> {
                int w = about(1);
                same("does(" + a + ", " + w + ")", x.does(a, w), m.does(a, w));
            }
            case 2 -> {
                int w = about(1);
                int b = about(5);
                same("bough(" + b + ", " + w + ")", x.bough(b, w), m.bough(b, w));
            }
            case 3 -> same("lawOf(" + s + ")", x.lawOf(s), m.lawOf(s));
            case 4 -> same("written(" + i + ")", x.written(i), m.written(i));
            case 5, 6 -> same("state(" + i + ")", x.state(i), m.state(i));
            case 7 -> {
                int w = about(2);
                same("row(" + i + ", " + w + ")", x.row(i, w), m.row(i, w));
            }
            case 8 -> {
                int sort = about(3);
                same("item(" + s + ", " + sort + ", " + i + ")", x.item(s, sort, i), m.item(s, sort, i));
            }
            case 9, 10 -> {
                int as = about(14);
                same("taken(" + s + ", " + as + ")", x.taken(s, as), m.taken(s, as));
            }
            case 11 -> same("trace(" + i + ")", x.trace(i), m.trace(i));
            default -> same("many(" + i + ")", x.many(i), m.many(i));
        }
    }

    private void all() {
        for (int a = 0; a < m.now.leaves.size(); a++) {
            for (int w = 0; w < 7; w++) {
                same("of(" + a + ", " + w + ")", x.of(a, w), m.of(a, w));
            }
            same("does(" + a + ", 0)", x.does(a, 0), m.does(a, 0));
            same("does(" + a + ", 1)", x.does(a, 1), m.does(a, 1));
        }
        for (int w = 0; w < 7; w++) {
            same("state(" + w + ")", x.state(w), m.state(w));
            same("many(" + w + ")", x.many(w), m.many(w));
        }
        for (int i = 0; i < m.many(6); i++) {
            same("trace(" + i + ")", x.trace(i), m.trace(i));
        }
        for (int i = 0; i < m.many(4); i++) {
            for (int w = 0; w < 3; w++) {
                same("row(" + i + ", " + w + ")", x.row(i, w), m.row(i, w));
            }
        }
        for (int s = 0; s < 4; s++) {
            for (int sort = 0; sort < 4; sort++) {
                for (int i = 0; i < m.items(s, sort); i++) {
                    same("item(" + s + ", " + sort + ", " + i + ")", x.item(s, sort, i), m.item(s, sort, i));
                }
            }
            for (int as = 0; as < 14; as++) {
                same("taken(" + s + ", " + as + ")", x.taken(s, as), m.taken(s, as));
            }
        }
        int v = any();
        same("seed(" + v + ")", x.seed(v), m.seed(v));
    }
}
