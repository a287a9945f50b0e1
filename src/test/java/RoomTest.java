import com.sun.management.ThreadMXBean;
import java.lang.management.ManagementFactory;

/** All calls live in one room, so that only constructors make objects and arrays. */
public final class RoomTest {
    private static final Checks CHECKS = new Checks();
    private static final ThreadMXBean THREADS = (ThreadMXBean) ManagementFactory.getThreadMXBean();

    public static void main(String[] args) {
        rounds(new FencedRows());
        FencedRows x = new FencedRows();
        long before = made();
        rounds(x);
        long bytes = made() - before;
        CHECKS.yes("some 500 calls of all kinds make almost nothing, not " + bytes + " bytes", bytes < 20000);
        before = made();
        FencedRows other = new FencedRows();
        bytes = made() - before;
        CHECKS.is("an object that was just made", other.about(0), 1);
        CHECKS.yes("an object takes little room, not " + bytes + " bytes", bytes < 65536);
        CHECKS.end();
    }

    private static long made() {
        return THREADS.getThreadAllocatedBytes(Thread.currentThread().getId());
    }

    private static void rounds(FencedRows x) {
        for (int i = 0; i < 14; i++) {
            x.clearText();
            x.append('M');
            x.append('n');
            x.append('k');
            x.append('0');
            x.errorPosition();
            x.load();
            act(x, i);
            ask(x);
            x.save(1);
            x.restore(1);
        }
    }

    private static void act(FencedRows x, int i) {
        x.weigh(i % 48, 1 + i);
        x.spread(1 + i % 11);
        x.fence(7, true);
        x.fence(7, false);
        x.away(5, true);
        x.away(i % 48, true);
        x.lie(0, -2);
        x.tell();
        x.seek(i % 3);
        x.trust(0);
        x.tell();
        x.undo();
    }

    private static void ask(FencedRows x) {
        x.about(10);
        x.rowOf(3, 3);
        x.blockOf(1, 5);
        x.ifSought(2, 3);
        x.bestWay();
        x.looks(1, 2, 1);
        x.leastLooks(0);
        x.balanced(3);
        x.canBe(0);
        x.farthest();
        x.runScript(3, 101014000050000L);
        x.simulate(17L, 60);
    }
}
