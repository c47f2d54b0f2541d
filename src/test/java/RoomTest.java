import java.lang.management.ManagementFactory;

/**
 * All calls of a run live in one room: some 600,000 objects and arrays, 7.3 million fields and
 * elements. So whatever is called all the time must make little.
 */
public final class RoomTest {
    private static final Due due = new Due("RoomTest");
    private static final int CALLS = 400, MOST_BYTES = 4_000_000;
    private static final Object[][] DEAR = {
        {"told", new int[] {0, 7}}, {"anew", new int[] {1}}, {"word", new int[] {5, 0}},
        {"set", new int[] {3, 1, 100}}, {"rule", new int[] {5, 0, 1, 0}}, {"bestRule", new int[] {5, 0}},
        {"bestAt", new int[] {5, 0, 1, 1}}, {"whom", new int[] {0, 1}}, {"allInTurn", new int[] {0, 1, 0}},
        {"hisCost", new int[] {5, 1, 0}}, {"slipped", new int[] {5, 0, 1}}, {"market", new int[] {0, 0, 1, 1}},
        {"judge", new int[] {5, 0}}, {"drawn", new int[] {5, 7}}, {"odds", new int[] {5, 7, 30, 0}},
        {"image", new int[] {}}, {"back", new int[] {}}, {"count", new int[] {1}}, {"feed", new int[] {40}},
        {"text", new int[] {}}, {"sheet", new int[] {2, 2, 40}}, {"cell", new int[] {0, 1, 0}},
        {"copy", new int[] {0, 0, 0, 1, 39}}, {"sellers", new int[] {0, 2, 0, 6}}, {"taken", new int[] {5, 1}}};

    private static CarpetEleven x;

    public static void main(String[] args) throws Exception {
        com.sun.management.ThreadMXBean room =
                (com.sun.management.ThreadMXBean) ManagementFactory.getThreadMXBean();
        if (!room.isThreadAllocatedMemorySupported()) {
            due.holds("this machine can't count", true);
            due.finish();
            return;
        }
        long id = Thread.currentThread().getId();
        made();
        long before = room.getThreadAllocatedBytes(id);
        x = new CarpetEleven();
        long made = room.getThreadAllocatedBytes(id) - before;
        due.holds("a new object takes " + made + " bytes, 100000 at most", made <= 100_000);
        for (Object[] dear : DEAR) {
            String name = (String) dear[0];
            int[] with = (int[]) dear[1];
            called(name, with);
            long idle = bytesOf(room, id, "count", new int[] {0});
            long used = bytesOf(room, id, name, with) - idle;
            due.holds(CALLS + " calls of " + name + " make " + used + " bytes, " + MOST_BYTES + " at most",
                    used <= MOST_BYTES);
        }
        due.finish();
    }

    private static long bytesOf(com.sun.management.ThreadMXBean room, long id, String name, int[] with) {
        long before = room.getThreadAllocatedBytes(id);
        called(name, with);
        return room.getThreadAllocatedBytes(id) - before;
    }

    private static void called(String name, int[] with) {
        made();
        for (int i = 0; i < CALLS; i++) {
            Twins.call(x, name, with);
        }
    }

    /** Where all calls have most to do: talks that last, sheets of 40 numbers, a tape begun. */
    private static void made() {
        x = new CarpetEleven();
        for (int i = 0; i < 6; i++) {
            x.seller(i, 9999);
        }
        x.sheet(0, 2, 40);
        x.sheet(1, 2, 40);
        for (char letter : "least 1;first (2".toCharArray()) {
            x.feed(letter);
        }
        x.image();
    }
}
