import com.sun.management.ThreadMXBean;
import java.lang.management.ManagementFactory;

/** An object is small, and no call takes anything of the room. */
public final class RoomTest {
    private static final ThreadMXBean BEAN =
        (ThreadMXBean) ManagementFactory.getThreadMXBean();
    private static final int OBJECT_MOST = 40_000;

    private static long bytes() {
        return BEAN.getCurrentThreadAllocatedBytes();
    }

    public static void main(String[] args) {
        FareyRank warm = new FareyRank();
        calls(warm);
        calls(new FareyRank());
        bytes();
        long before = bytes();
        FareyRank x = new FareyRank();
        long made = bytes();
        calls(x);
        long after = bytes();
        System.out.println("an object takes " + (made - before) + " bytes, its calls "
            + (after - made));
        Check.due("an object takes too much", made - before > OBJECT_MOST, false);
        Check.due("what the calls take", after - made < 1000, true);
        Check.end();
    }

    /** Some 500 calls, the dearest ones among them. */
    private static void calls(FareyRank x) {
        x.rule(0, 200);
        for (int i = 0; i < 12; i++) {
            x.pin(i, 13, 9);
            x.tray(i % 4, i % 4, 60);
        }
        for (int i = 0; i < 20; i++) {
            x.fraction(i * 600);
            x.nearest(i, 9999);
            x.below(i, -7);
            x.simplest(i, 9999, i + 1, 9999);
            x.digits(i + 1, 9967, 1);
            x.digitAt(i, 9967, 9999);
            x.game(1, 9000 + i, 10);
            x.moveOf(1, 9000 + i, 10);
            x.wrong(12, i % 13);
            x.gap();
            x.middle();
            x.copyPins(i % 4);
            x.pour(i % 4, 0, i % 4, 10, 50);
            x.mark();
            // "loop" " 99;" "any;" "left" ";end" ";   "
            x.feed(0x6C6F6F70, 0x2039393B, 0x616E793B, 0x6C656674, 0x3B656E64);
            x.feed(0x3B202020, 0, 0, 0, 0);
            x.tours(24);
            x.live(i);
            x.mean(i, 20);
            x.feed(0x6F646473, 0x2039393B, 0, 0, 0);
            x.study(8);
            x.undo();
        }
    }
}
