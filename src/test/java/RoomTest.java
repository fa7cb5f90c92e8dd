import com.sun.management.ThreadMXBean;
import java.lang.management.ManagementFactory;

/** All calls of a run share one room: a constructor takes little of it, and no other call takes any. */
public final class RoomTest {
    private static final int RUNS = 200;
    private static final ThreadMXBean THREADS = (ThreadMXBean) ManagementFactory.getThreadMXBean();

    public static void main(String[] args) {
        Due due = new Due();
        ChainPeers[] nodes = new ChainPeers[2 * RUNS];
        for (int i = 0; i < nodes.length; i++) {
            nodes[i] = new ChainPeers(1, 2);
        }
        int[][] messages = messages();
        // The first ones load what Java itself needs.
        for (int i = 0; i < RUNS; i++) {
            live(nodes[i], messages);
        }
        long before = allocated();
        long after = allocated();
        long ownCost = after - before;
        before = allocated();
        for (int i = RUNS; i < nodes.length; i++) {
            live(nodes[i], messages);
        }
        after = allocated();
        due.is("bytes that calls allocate", after - before - ownCost, 0);

        before = allocated();
        for (int i = 0; i < RUNS; i++) {
            nodes[i] = new ChainPeers(1, 2);
        }
        after = allocated();
        // 512 objects of 14,000 elements of 4 bytes each would fill the room.
        long each = (after - before) / RUNS;
        due.is("a constructor takes " + each + " bytes, below 14000", each < 14000, true);
        due.end();
    }

    private static long allocated() {
        return THREADS.getThreadAllocatedBytes(Thread.currentThread().getId());
    }

    private static int[][] messages() {
        int[] one = Code.child(Code.GENESIS, 1, 8, 4);
        int[] two = Code.child(one, 2, 8);
        return new int[][] {
            Code.hello(1, 99), Code.headers(1, one, two), Code.body(2, 4), Code.askHeaders(1, 0, 2),
            Code.askBody(1, Code.hash(one)), Code.headers(3, two), Code.body(9), Code.bye(), {199, 1}, {}
        };
    }

    private static void live(ChainPeers x, int[][] messages) {
        x.open(0);
        for (int[] message : messages) {
            x.clear();
            for (int b : message) {
                x.put(1, b);
            }
            x.receive(0);
            x.work();
        }
        for (int i = 1; i < 22; i++) {
            x.seal(i, 8, i);
        }
        x.open(1);
        x.send(1);
        x.tick(50);
        x.close(1);
        for (int k = -1; k < 21; k++) {
            x.peer(k, k);
            x.block(k, k);
            x.tx(k, 0);
            x.state(k);
            x.wire(k);
        }
    }
}
