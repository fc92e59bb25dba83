import com.sun.management.ThreadMXBean;
import java.lang.management.ManagementFactory;

/** What a run of calls of one kind makes: the room of a run holds 7.3 million fields and elements in all. */
public final class RoomTest {
    // An object has 512 calls: filling its ropes takes up to 112 of them.
    private static final int CALLS = 400;
    // A text of 240 signs stands twice for a moment: as a row and as the String. 400 of them stay far below this.
    private static final long MOST_BYTES = 1_000_000L;

    private static final Due due = new Due();
    private static final ThreadMXBean THREADS = (ThreadMXBean) ManagementFactory.getThreadMXBean();

    interface Calls {
        void make(Signrope ropes, int call);
    }

    public static void main(String[] args) {
        due.is("texts", true, bytesOf((ropes, call) -> ropes.text(0)) < MOST_BYTES);
        due.is("digests", true, bytesOf((ropes, call) -> ropes.digest()) < 20_000L);
        due.is("acts", true, bytesOf((ropes, call) -> ropes.replaceBy(0, 0, 240, 0)) < 20_000L);
        due.is("numbers", true, bytesOf(RoomTest::numberOrBack) < 20_000L);
        due.is("searches", true, bytesOf((ropes, call) -> ropes.findFrom(0, 69, 200, true)) < 20_000L);
        due.is("new objects", true, bytesOf((ropes, call) -> new Signrope()) < CALLS * 10_000L);
        due.end();
    }

    private static void numberOrBack(Signrope ropes, int call) {
        if (call % 2 == 0) {
            ropes.setLength(1, 220);
        } else {
            ropes.longNumber(1, Integer.MIN_VALUE, 0);
        }
    }

    private static long bytesOf(Calls calls) {
        measured(calls);
        return measured(calls);
    }

    private static long measured(Calls calls) {
        Signrope ropes = new Signrope();
        for (int rope = 0; rope < 4; rope++) {
            Due.fill(ropes, rope, 240);
        }
        long before = THREADS.getCurrentThreadAllocatedBytes();
        for (int k = 0; k < CALLS; k++) {
            calls.make(ropes, k);
        }
        return THREADS.getCurrentThreadAllocatedBytes() - before;
    }
}
