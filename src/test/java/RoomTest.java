import com.sun.management.ThreadMXBean;
import java.lang.management.ManagementFactory;

/** What 512 calls of one kind make: the room of a run holds 7.3 million fields and elements in all. */
public final class RoomTest {
    private static final int CALLS = 512;
    // A text of 240 signs stands twice for a moment: as a row and as the String. 512 of them stay far below this.
    private static final long MOST_BYTES = 1_000_000L;

    private static final Due due = new Due();
    private static final ThreadMXBean THREADS = (ThreadMXBean) ManagementFactory.getThreadMXBean();

    interface Calls {
        void make(Signrope ropes);
    }

    public static void main(String[] args) {
        due.is("512 texts", true, bytesOf(ropes -> ropes.text(0)) < MOST_BYTES);
        due.is("512 digests", true, bytesOf(Signrope::digest) < 20_000L);
        due.is("512 acts", true, bytesOf(ropes -> ropes.replaceBy(0, 0, 240, 0)) < 20_000L);
        due.is("512 numbers", true, bytesOf(RoomTest::numberAndBack) < 20_000L);
        due.is("512 searches", true, bytesOf(ropes -> ropes.findFrom(0, 69, 200, true)) < 20_000L);
        due.is("512 new objects", true, bytesOf(ropes -> new Signrope()) < 512L * 10_000L);
        due.end();
    }

    private static void numberAndBack(Signrope ropes) {
        ropes.setLength(1, 100);
        ropes.longNumber(1, Integer.MIN_VALUE, 0);
    }

    private static long bytesOf(Calls calls) {
        measured(calls);
        return measured(calls);
    }

    private static long measured(Calls calls) {
        Signrope ropes = new Signrope();
        for (int rope = 0; rope < 4; rope++) {
            Due.fill(ropes, rope, 240);
        }
        long before = THREADS.getCurrentThreadAllocatedBytes();
        for (int k = 0; k < CALLS; k++) {
            calls.make(ropes);
        }
        return THREADS.getCurrentThreadAllocatedBytes() - before;
    }
}
