import java.lang.management.ManagementFactory;

/** All calls of a run live in one room: a new object is small, and no call makes anything. */
public final class RoomTest {
    private static final int ROUNDS = 400;
    private static final Due DUE = new Due("RoomTest");

    public static void main(String[] args) {
        com.sun.management.ThreadMXBean beans = (com.sun.management.ThreadMXBean) ManagementFactory.getThreadMXBean();
        long id = Thread.currentThread().getId();
        MastField x = new MastField();
        everyCall(x);
        beans.getThreadAllocatedBytes(id);

        long before = beans.getThreadAllocatedBytes(id);
        new MastField();
        long made = beans.getThreadAllocatedBytes(id) - before;
        DUE.yes("a new object takes " + made + " bytes", made < 8000);

        before = beans.getThreadAllocatedBytes(id);
        for (int round = 0; round < ROUNDS; round++) {
            everyCall(x);
        }
        made = beans.getThreadAllocatedBytes(id) - before;
        DUE.yes(ROUNDS + " rounds of all calls took " + made + " bytes", made < 4000);
        DUE.end();
    }

    private static void everyCall(MastField x) {
        x.map(10, 10);
        x.shade(5, 5);
        for (int m = 0; m < 8; m++) {
            x.mast(11 * m, 60, 2, 2);
        }
        x.reach(0, 3);
        x.wake(1, false);
        x.neighbour(0, 2, true);
        x.feed('h' << 24 | '1' << 16, 0, 0, 0, 0);
        x.rules(2);
        for (int k = 0; k < 20; k++) {
            x.caller(5 * k);
            x.call(k);
            x.move(k, 99 - k);
        }
        for (int i = 0; i < 5; i++) {
            x.tick();
            x.move(i, i);
            x.hang(i + 10);
            x.spot(20 * i);
        }
        for (int i = 0; i < 20; i++) {
            x.look(i, i % 6);
            x.about(i % 8, i % 8);
            x.reports(i % 8, i % 7);
            x.count(i + 13);
            x.field(i % 8, i);
            x.loss(i % 7, i, i);
        }
        x.covered(50);
        x.sleep();
        x.best(-1);
    }
}
