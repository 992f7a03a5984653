import com.sun.management.ThreadMXBean;
import java.lang.management.ManagementFactory;

/** All calls of one run share one small room: an object is made once, and its calls make next to nothing. */
public final class RoomTest {
    private static final long MOST_BYTES_AN_OBJECT = 500_000;
    private static final long MOST_BYTES_OF_CALLS = 10_000;

    public static void main(String[] args) {
        Check check = new Check();
        ThreadMXBean thread = (ThreadMXBean) ManagementFactory.getThreadMXBean();
        long before = thread.getCurrentThreadAllocatedBytes();
        WhiteKnights x = new WhiteKnights();
        long made = thread.getCurrentThreadAllocatedBytes();
        check.due("bytes of an object: " + (made - before), made - before < MOST_BYTES_AN_OBJECT);

        Check.tell(x, "board 4 3;king 0 0 11;rook 0 1 10;king 1 2 9;rook 1 3 8;turns");
        made = thread.getCurrentThreadAllocatedBytes();
        for (int n = 0; n < 20; n++) dearCalls(x, n);
        long called = thread.getCurrentThreadAllocatedBytes();
        check.due("bytes of calls: " + (called - made), called - made < MOST_BYTES_OF_CALLS);
        check.end();
    }

    private static void dearCalls(WhiteKnights x, int n) {
        x.write(0x3b65657266L, 4);
        x.fault();
        x.board();
        x.left(4 + n % 4);
        x.added(n % 12);
        x.fewest();
        x.way(n, 0);
        x.alike();
        x.many(n);
        x.farthest(1);
        x.turned(n % 4);
        x.ring(n % 4, n % 12, n);
        x.judge();
    }
}
