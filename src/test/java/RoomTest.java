import java.lang.management.ManagementFactory;

/** All calls of a run live in one room: the dearest calls, 512 of them, make no objects. */
public final class RoomTest {
    private static final Check CHECK = new Check();

    private static TrackCircuits dear() {
        TrackCircuits x = new TrackCircuits();
        for (int i = 0; i < 8; i++) {
            x.section((i * 5 + 4) % 6, 30 + 8 * i, i, 9 - i);
        }
        for (int i = 0; i < 6; i++) {
            x.fault(3, i);
        }
        x.train(2, 1);
        return x;
    }

    private static int all(TrackCircuits x, int i) {
        int sum = x.moment() + x.run(20, i % 4) + x.clears(i % 8) + x.order(i % 2) + x.seen(i % 8) + x.bound(i % 2);
        sum += x.proof(i % 2) + x.pick(i % 2) + x.fix() + x.drawn(i, 9) + x.chance(i, 20, 9, 1, i % 2);
        sum += x.film(0, i % 8, 10) + x.tells(0, i % 8, i % 2) + x.image() + x.back() + x.count(4);
        sum += x.feed(5, 'm', 'e', 'n', 'd', '0') + x.feed(5, ';', 'd', 'r', 'o', 'p') + x.text();
        sum += x.section(3, 50, 1, 1) + x.fault(3, 0) + x.sheet(1, 1, 40) + x.put(1, 1, 40) + x.put(1, 3, 1);
        return sum + x.load(1, 1, 0, 8) + x.copy(1, 0, 1, 4, 30) + x.moves() + x.train(0, 1);
    }

    public static void main(String[] args) {
        com.sun.management.ThreadMXBean threads =
            (com.sun.management.ThreadMXBean) ManagementFactory.getThreadMXBean();
        TrackCircuits x = dear();
        int sum = all(x, 0);
        long ahead = threads.getCurrentThreadAllocatedBytes();
        long none = threads.getCurrentThreadAllocatedBytes() - ahead;
        ahead = threads.getCurrentThreadAllocatedBytes();
        for (int i = 0; i < 200; i++) {
            sum += all(x, i);
        }
        long made = threads.getCurrentThreadAllocatedBytes() - ahead - none;
        CHECK.holds("calls made " + made + " bytes of objects", made < 4096);
        ahead = threads.getCurrentThreadAllocatedBytes();
        TrackCircuits y = new TrackCircuits();
        made = threads.getCurrentThreadAllocatedBytes() - ahead;
        CHECK.holds("a new one takes " + made + " bytes", made < 10000 && y.count(0) + sum != Integer.MIN_VALUE);
        CHECK.end("RoomTest");
    }
}
