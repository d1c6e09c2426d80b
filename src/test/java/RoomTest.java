import com.sun.management.ThreadMXBean;
import java.lang.management.ManagementFactory;

/**
 * The room that a run takes: an object and 512 calls, of the dearest and of each kind, keep far below
 * what all of a run may make (7.3 million fields and elements, which are some 29 million bytes at least).
 */
public final class RoomTest {
    private static final Checks due = new Checks("RoomTest");
    private static final int CALLS = 512;
    private static final long MOST = 4_000_000;
    private static final ThreadMXBean BEAN = (ThreadMXBean) ManagementFactory.getThreadMXBean();

    public static void main(String[] args) {
        long before = taken();
        LineRemarks[] objects = new LineRemarks[100];
        for (int k = 0; k < objects.length; k++) {
            objects[k] = new LineRemarks();
        }
        below("100 new objects", taken() - before);
        below("an image, then restore and drift", drifts());
        for (int which = 0; which < 20; which++) {
            below("calls of " + which, calls(which));
        }
        due.end();
    }

    private static long taken() {
        return BEAN.getThreadAllocatedBytes(Thread.currentThread().getId());
    }

    private static void below(String what, long bytes) {
        due.that(what + " took " + bytes + " bytes", bytes < MOST);
    }

    private static long drifts() {
        LineRemarks x = Scenes.chain(Scenes.ALL);
        long before = taken();
        x.image();
        for (int k = 1; k < CALLS; k += 2) {
            x.restore();
            x.drift(15);
        }
        return taken() - before;
    }

    private static long calls(int which) {
        LineRemarks x = Scenes.full();
        long before = taken();
        for (int k = 0; k < CALLS; k++) {
            call(x, which, k % 16);
        }
        return taken() - before;
    }

    private static void call(LineRemarks x, int which, int k) {
        switch (which) {
            case 0 -> x.row(k % 8, k % 4, 160);
            case 1 -> x.set(0, 0, k);
            case 2 -> x.revise(0, k);
            case 3 -> x.rule(0, 1 + k % 9);
            case 4 -> x.place(k, 15, 0);
            case 5 -> x.matched(k, 15, 0);
            case 6 -> x.through(0, k, 0);
            case 7 -> x.origin(k, 0, 0);
            case 8 -> x.remark(k % 7, 0, 0, 0, 0, -1);
            case 9 -> x.put(k, 15, 0);
            case 10 -> x.score(k, 15, 0);
            case 11 -> x.leastNeed(k, 15);
            case 12 -> x.fitting(k, 15);
            case 13 -> x.inOrder(15, k);
            case 14 -> x.who(15, 2);
            case 15 -> x.covered(15);
            case 16 -> x.judge(0, k, 15);
            case 17 -> x.act(k, 2, k);
            case 18 -> x.image();
            default -> x.restore();
        }
    }
}
