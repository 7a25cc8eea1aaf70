import java.lang.management.ManagementFactory;

/** The room that the calls of one object take: its rows are made once, so that 512 calls need next to nothing. */
public final class RoomTest {
    private static final int CALLS = 512;
    private static final long MOST_BYTES_OF_AN_OBJECT = 160_000;
    private static final long MOST_BYTES_OF_ALL_CALLS = 20_000;

    private static TreeKayles kept;

    public static void main(String[] args) {
        run(CALLS);
        long before = allocated();
        kept = new TreeKayles();
        long made = allocated() - before;
        before = allocated();
        run(CALLS);
        long called = allocated() - before - made;
        System.out.println("RoomTest: " + made + " bytes for an object, " + called + " for its calls");
        if (made > MOST_BYTES_OF_AN_OBJECT || called > MOST_BYTES_OF_ALL_CALLS || kept == null) {
            System.out.println("that is too much room");
            System.exit(1);
        }
    }

    private static long allocated() {
        var threads = (com.sun.management.ThreadMXBean) ManagementFactory.getThreadMXBean();
        return threads.getThreadAllocatedBytes(Thread.currentThread().getId());
    }

    /** New edges before each look, so that nothing is known from the look before. */
    private static void run(int calls) {
        TreeKayles x = new TreeKayles();
        for (int node = 0; node < 14; node++) {
            x.node(node - 1);
        }
        for (int call = 14; call < calls; call += 4) {
            int one = call / 4 % 13;
            x.cut(one, one + 1);
            x.digest();
            x.join(one, one + 1);
            x.keep(call / 4 % 2);
        }
    }
}
