import java.lang.management.ManagementFactory;

/** All calls of a run live in one room: a call that does not throw makes no objects. */
public final class RoomTest {
    private static final Check CHECK = new Check("RoomTest");
    private static final int DESKS = 25;
    /** With the calls that make it crowded, a desk is used for less than 512 calls. */
    private static final int ROUNDS = 22;
    /** What measuring may cost by itself; an array or object a call would be far above it. */
    private static final long MEASURING = 4096;

    public static void main(String[] args) {
        RunwayDesk[] desks = new RunwayDesk[DESKS];
        for (int i = 0; i < DESKS; i++) {
            desks[i] = crowded();
        }
        int answers = allCalls(crowded());
        long before = allocated();
        for (RunwayDesk desk : desks) {
            for (int round = 0; round < ROUNDS; round++) {
                answers += allCalls(desk);
            }
        }
        long made = allocated() - before;
        CHECK.isTrue("the calls answered", answers != 0);
        CHECK.isTrue(DESKS * ROUNDS + " rounds of calls made " + made + " bytes", made <= MEASURING);
        CHECK.end();
    }

    private static long allocated() {
        return ((com.sun.management.ThreadMXBean) ManagementFactory.getThreadMXBean())
                .getThreadAllocatedBytes(Thread.currentThread().getId());
    }

    private static RunwayDesk crowded() {
        RunwayDesk desk = new RunwayDesk();
        for (int m = 0; m < 7; m++) {
            desk.add(m % 3, 0, 10 * m, 3000, 1 + m);
        }
        desk.close(100, 120);
        return desk;
    }

    private static int allCalls(RunwayDesk desk) {
        int sum = desk.gap(0, 1, 90) + desk.limit(6) + desk.retarget(3, 30);
        sum += desk.reopen() + desk.close(100, 120);
        sum += desk.remove(6) + desk.add(0, 0, 60, 3000, 7);
        desk.freeze(2, 50);
        sum += desk.solve() + desk.whatIf(1, 15) + desk.firstCome() + desk.bound();
        sum += desk.verify() + desk.slack(1) + desk.second(4) + desk.at(5) + desk.place(6);
        sum += desk.change(0, 2) + desk.accept();
        return sum + (desk.thaw(2) ? 1 : 0);
    }
}
