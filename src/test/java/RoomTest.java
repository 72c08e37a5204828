import com.sun.management.ThreadMXBean;
import java.lang.management.ManagementFactory;

/** The calls of a run find room: an object is small, and the dearest calls make next to nothing. */
public final class RoomTest {
    private static final ThreadMXBean THREADS = (ThreadMXBean) ManagementFactory.getThreadMXBean();

    private static long made() {
        return THREADS.getCurrentThreadAllocatedBytes();
    }

    private static GangColumns full() {
        GangColumns x = new GangColumns();
        x.rule(0, 4);
        x.every(15, 20000, 4000, 4001, 2, -1);
        x.every(7, 40, 10, 60, 5, 3);
        for (int j = 0; j < 79; j++) {
            tell(x, "3x" + (j + 20) + ",2x9,1x60,4x" + (j * 2 + 1));
            x.job(j % 8, j % 10, 1 + j, j % 9 == 8 ? j - 7 : -1);
        }
        x.step(1);
        return x;
    }

    private static void tell(GangColumns x, String text) {
        for (int i = 0; i < text.length(); i++) {
            x.feed(text.charAt(i));
        }
    }

    private static long allCalls(GangColumns x) {
        long sum = 0;
        for (int j = 0; j < 80; j++) {
            sum += x.foretell(j) + x.shrunk(j) + x.moves(j) + x.together(j, 79 - j) + x.orders(j, x.count(7));
            sum += x.text(j, -1) + x.text(j, 12) + x.of(j, 0) + x.line(j) + x.plan(j - 1);
        }
        for (int i = 0; i < 8; i++) {
            sum += x.byRule(0, i % 5, 1) + x.gap(i, 3, 0) + x.holes(x.count(7), 400, 1) + x.ranked(i);
        }
        x.feed('9');
        x.feed('x');
        x.feed('9');
        sum += x.costs(1, 5, 1);
        x.feed('4');
        x.feed('x');
        x.feed('9');
        sum += x.earliest(4);
        return sum + x.image() + x.step(100) + x.back() + x.pass();
    }

    public static void main(String[] args) {
        Checks checks = new Checks("RoomTest");
        checks.about("room");
        GangColumns warm = full();
        allCalls(warm);
        long before = made();
        GangColumns x = new GangColumns();
        long object = made() - before;
        checks.holds("an object takes at most 200,000 bytes, not " + object, object < 200000);
        x = full();
        allCalls(x);
        before = made();
        allCalls(x);
        long calls = made() - before;
        checks.holds("the dearest calls make at most 4,000 bytes, not " + calls, calls < 4000);
        checks.end();
    }
}
