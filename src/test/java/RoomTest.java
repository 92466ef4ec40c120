import java.lang.management.ManagementFactory;

/** All calls of a run live in one room: an object is small, and its calls make nothing. */
public final class RoomTest {
    private static final com.sun.management.ThreadMXBean BEAN =
        (com.sun.management.ThreadMXBean) ManagementFactory.getThreadMXBean();

    public static void main(String[] args) {
        long before = used();
        for (int n = 0; n < 100; n++) {
            new ShelfJudge();
        }
        long each = (used() - before) / 100;
        System.out.println("an object takes " + each + " bytes");
        Due.that("an object is small", each < 100_000);
        dearestCalls(new ShelfJudge());
        ShelfJudge x = new ShelfJudge();
        long start = used();
        dearestCalls(x);
        long made = used() - start;
        System.out.println("its dearest calls make " + made + " bytes");
        Due.that("calls make next to nothing", made < 10_000);
        Due.end();
    }

    private static long used() {
        return BEAN.getThreadAllocatedBytes(Thread.currentThread().getId());
    }

    /** Within 512 calls, each kind on a full row. */
    private static void dearestCalls(ShelfJudge x) {
        x.draw(300, 10, 5);
        for (int k = 1; k <= 8; k++) {
            x.least(k);
            x.goes(k, 299);
            x.fewest(k);
            x.curve(k);
            x.phases(k);
            for (int way = 0; way <= 8; way++) {
                x.serve(way, k);
                x.look(150, 0, 0);
                x.level(299, 0);
                x.copy();
                x.check(way, k);
                x.cost(k);
            }
        }
        x.hard(6, 8, 300);
    }
}
