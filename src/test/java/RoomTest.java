import java.lang.management.ManagementFactory;
import java.util.function.IntConsumer;

/**
 * All calls of a run live in one room of some 600,000 objects and arrays, 7.3 million fields and elements in all: a new
 * object and as many calls as it may have stay within it, whichever call it is.
 */
public final class RoomTest {
    private static final com.sun.management.ThreadMXBean THREADS = (com.sun.management.ThreadMXBean) ManagementFactory.getThreadMXBean();
    /** An object takes 16 bytes at least. */
    private static final long ROOM = 600_000 * 16L;
    private static final int CALLS = 450;

    private static final Due DUE = new Due("RoomTest");
    private static LeafFalls x;

    private static long bytes() {
        return THREADS.getThreadAllocatedBytes(Thread.currentThread().getId());
    }

    private static void make() {
        x = new LeafFalls();
        for (int i = 0; i < 8; i++) {
            x.leaf(i % 6, i % 3, 99 - i, i);
        }
        x.sheet(0, 0, 40);
        for (int i = 0; i < 40; i++) {
            x.put(0, i, -1);
        }
        x.shelf(0, 0, 4);
        x.shelf(1, 1, 0);
        x.prove(2, 10);
        x.keep();
    }

    private static void room(String call, IntConsumer calls) {
        long before = bytes();
        make();
        for (int i = 0; i < CALLS; i++) {
            calls.accept(i);
        }
        long taken = bytes() - before;
        DUE.due("a new object and " + CALLS + " of " + call + " take no more than " + ROOM + " bytes (" + taken + ")", taken <= ROOM ? 1 : 0, 1);
    }

    public static void main(String[] args) {
        DUE.promise(0, "(the room)");
        changes();
        tries();
        asks();
        DUE.close();
    }

    private static void changes() {
        room("feed", i -> x.feed(i, 1));
        room("feed and autumn", i -> {
            if (i % 2 == 0) {
                x.feed(Step.eight("wind 5; "), 8);
            } else {
                x.autumn();
            }
        });
        room("set", i -> x.set(i % 4, i % 10));
        room("leaf", i -> x.leaf(i % 6, 0, 0, 0));
        room("mind", i -> x.mind(i % 8, i % 6, i % 10));
        room("hold", i -> x.hold(i % 8, i % 100));
        room("move", i -> x.move(i % 8, i % 6));
        room("pluck", i -> x.pluck(i % 8));
        room("sway", i -> x.sway(i % 6, i % 10));
        room("days", i -> x.days(60));
        room("seed", i -> x.seed(i));
        room("day", i -> x.day());
        room("prove", i -> x.prove(i % 8, 10));
        room("alterRow", i -> x.alterRow(i % 10, i % 3, i));
        room("minds", i -> x.minds(0, i % 33, 0, 8));
        room("sheet", i -> x.sheet(i % 4, i % 5 - 1, 40));
        room("put", i -> x.put(0, i % 40, i));
        room("shelf", i -> x.shelf(i % 4, i % 2, 0));
        room("act", i -> x.act(0, i % 4, i));
        room("keep", i -> x.keep());
        room("again", i -> x.again());
    }

    private static void tries() {
        room("lost", i -> x.lost(30));
        room("falls", i -> x.falls(i % 8));
        room("bare", i -> x.bare());
        room("next", i -> x.next());
        room("latest", i -> x.latest());
        room("boughFor", i -> x.boughFor(i % 8));
        room("kindFor", i -> x.kindFor(i % 8));
        room("holdFor", i -> x.holdFor(i % 8, 20));
        room("tiedFor", i -> x.tiedFor(i % 8, 20));
        room("fits", i -> x.fits(0, i % 8, i % 2));
        room("odds", i -> x.odds(8, i % 9, 1));
        room("hope", i -> x.hope(i % 100, 1));
        room("judge", i -> x.judge(2));
    }

    private static void asks() {
        room("lawOf", i -> x.lawOf(i % 4));
        room("of", i -> x.of(i % 8, i % 7));
        room("does", i -> x.does(i % 8, i % 2));
        room("bough", i -> x.bough(i % 6, i % 2));
        room("written", i -> x.written(i % 8));
        room("state", i -> x.state(i % 6));
        room("row", i -> x.row(i % 10, i % 3));
        room("item", i -> x.item(0, 0, i % 40));
        room("taken", i -> x.taken(i % 4, i % 14));
        room("trace", i -> x.trace(i % 30));
        room("many", i -> x.many(i % 7));
    }
}
