import java.lang.management.ManagementFactory;

/** What calls make is small: all calls of a run live in one room. */
public final class RoomTest {
    private static final Due due = new Due("RoomTest");
    private static final int CALLS = 512;

    private static CarpetEleven x;

    public static void main(String[] args) {
        com.sun.management.ThreadMXBean room =
                (com.sun.management.ThreadMXBean) ManagementFactory.getThreadMXBean();
        if (!room.isThreadAllocatedMemorySupported()) {
            due.holds("this machine can't count", true);
            due.finish();
            return;
        }
        long id = Thread.currentThread().getId();
        round();
        long before = room.getThreadAllocatedBytes(id);
        x = new CarpetEleven();
        long made = room.getThreadAllocatedBytes(id) - before;
        due.holds("a new object takes " + made + " bytes, 16384 at most", made <= 16384);
        before = room.getThreadAllocatedBytes(id);
        round();
        long used = room.getThreadAllocatedBytes(id) - before;
        due.holds("a round of calls makes " + used + " bytes, 65536 at most", used <= 65536);
        due.finish();
    }

    private static void round() {
        x = new CarpetEleven();
        for (int i = 0; i < 6; i++) {
            x.seller(i, 1009);
        }
        x.sheet(0, 2, 40);
        for (int i = 0; i < CALLS; i++) {
            x.sheet(1, 1, 40);
            x.bestRule(i % 6, 0);
            x.bestAt(i % 6, 100, 5, 1);
            x.market(0, 100, 5, 1);
            x.odds(i % 6, i, 30, 0);
            x.judge(i % 6, 0);
            x.whom(100, 5);
            x.allInTurn(100, 5, 0);
            x.slipped(i % 6, 100, 5);
            x.image();
            x.back();
            x.copy(1, 0, 1, 5, 30);
            x.feed('(');
            x.text();
        }
        x.sheet(0, 2, 0);
        for (int i = 0; i < 20; i++) {
            x.hisCost(0, 0, 0);
        }
    }
}
