import java.lang.management.ManagementFactory;
import java.util.function.IntConsumer;

/** All calls of a run live in one room: calls make no objects, and a new object makes few. */
public final class RoomTest {
    private static final Due DUE = new Due("RoomTest");
    private static final com.sun.management.ThreadMXBean THREADS = (com.sun.management.ThreadMXBean) ManagementFactory.getThreadMXBean();
    private static LeafFalls made;

    private static long bytes() {
        return THREADS.getThreadAllocatedBytes(Thread.currentThread().getId());
    }

    private static void room(String what, IntConsumer calls, long most) {
        calls.accept(0);
        long least = Long.MAX_VALUE;
        // the host makes a thing of its own now and then: the least of three counts
        for (int round = 0; round < 3; round++) {
            long before = bytes();
            for (int i = 0; i < 512; i++) {
                calls.accept(i);
            }
            least = Math.min(least, bytes() - before);
        }
        DUE.due("512 of " + what + " take no more than " + most + " bytes (" + least + ")", least <= most ? 1 : 0, 1);
    }

    public static void main(String[] args) {
        DUE.promise(0, "room");
        room("bytes()", i -> bytes(), 512 * 64);
        // some 45 objects and 700 elements
        room("new LeafFalls()", i -> made = new LeafFalls(), 512 * 6000);
        LeafFalls x = Due.told("evergreen on 0 hold 99; yellow on 0; gold on 0; red on 1; scarlet on 2; leaf on 0; leaf on 0; yellow on 0;");
        x.sheet(0, 0, 40);
        for (int i = 0; i < 40; i++) {
            x.put(0, i, -1);
        }
        x.shelf(0, 0, 2);
        x.shelf(1, 1, 0);
        room("what changes", i -> {
            x.set(i % 4, i % 10);
            x.mind(i % 8, i % 6, i % 10);
            x.hold(i % 8, i % 100);
            x.move(i % 8, i % 6);
            x.sway(i % 6, i % 10);
            x.minds(0, 0, 0, 8);
            x.prove(i % 8, 10);
            x.alterRow(i % 10, i % 3, i);
            x.keep();
            x.days(60);
            x.day();
            x.pluck(i % 8);
            x.again();
            x.sheet(1 + i % 3, i % 5 - 1, i % 41);
            x.put(1 + i % 3, i % 41, i);
            x.shelf(2, i % 3, i % 4);
        }, 4096);
        room("what is tried", i -> {
            x.falls(i % 8);
            x.bare();
            x.next();
            x.latest();
            x.boughFor(i % 8);
            x.kindFor(i % 8);
            x.holdFor(i % 8, 20);
            x.tiedFor(i % 8, 20);
            x.fits(0, i % 8, 0);
            x.lost(30);
            x.odds(8, i % 9, 1);
            x.hope(i % 100, 1);
            x.judge(i % 8);
        }, 4096);
        room("what asks", i -> {
            x.of(i % 8, i % 7);
            x.does(i % 8, i % 2);
            x.bough(i % 6, i % 2);
            x.state(i % 6);
            x.many(i % 7);
            x.written(i % 8);
            x.item(0, 0, i % 40);
            x.taken(i % 4, i % 14);
            x.act(0, i % 4, i);
            x.trace(i % 30);
        }, 4096);
        room("autumns", i -> {
            x.feed(0x203120656c646ff1L + i, 8);
            x.autumn();
            x.again();
        }, 4096);
        DUE.close();
    }
}
