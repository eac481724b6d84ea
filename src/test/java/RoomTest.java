import java.lang.management.ManagementFactory;

/** All calls of a run live in one room: the dearest calls make nothing new, and end soon. */
public final class RoomTest {
    /** The rows are ints, four bytes each; 60,000 of them leave a hundred objects room in one run. */
    private static final long MOST_BYTES_OF_AN_OBJECT = 240_000;
    private static final long MOST_BYTES_OF_DEAR_CALLS = 64_000;
    /** With those by which an object is filled, not more than it is used for. */
    private static final int DEAR_CALLS = 340;

    private static long made() {
        com.sun.management.ThreadMXBean bean = (com.sun.management.ThreadMXBean) ManagementFactory.getThreadMXBean();
        return bean.getCurrentThreadAllocatedBytes();
    }

    /** Eight passes none of which is seen, so that each round works out all ways anew behind a change. */
    private static void fill(DishRounds x) {
        for (int d = 0; d < 4; d++) {
            x.set(d, 0, 36);
            x.set(d, 1, 3);
        }
        for (int n = 0; n < 8; n++) {
            x.pass(n, 60);
            for (int k = 0; k < 16; k++) {
                x.point(n, (n + 7 * k) % 24, 6);
            }
        }
    }

    private static int dearCalls(DishRounds x, int calls) {
        int sum = 0;
        for (int i = 0; i < calls / 5; i++) {
            sum += x.round();
            sum += x.stand(i % 4, i % 36, 6, 0);
            sum += x.share(i % 8, 0, 3, 1);
            sum += x.image(i % 2) + x.restore(i % 2);
        }
        return sum;
    }

    public static void main(String[] args) {
        made();
        fill(new DishRounds());
        long before = made();
        DishRounds x = new DishRounds();
        long object = made() - before;
        fill(x);
        dearCalls(x, 5);
        before = made();
        dearCalls(x, DEAR_CALLS);
        long calls = made() - before;
        System.out.println("an object: " + object + " bytes, " + DEAR_CALLS + " dear calls: " + calls + " bytes");
        if (object > MOST_BYTES_OF_AN_OBJECT || calls > MOST_BYTES_OF_DEAR_CALLS) {
            System.out.println("that is too much");
            System.exit(1);
        }
    }
}
