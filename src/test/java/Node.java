/**
 * A ChainPeers whose calls are counted. The document promises nothing of an object after its 512th call, so a
 * test that would lean on a later one stops here.
 */
final class Node {
    static final int MOST_CALLS = 512;

    private final ChainPeers inner;
    private int calls;

    Node(int chain, int wait) {
        inner = new ChainPeers(chain, wait);
    }

    int callsLeft() {
        return MOST_CALLS - calls;
    }

    boolean open(int p) {
        count();
        return inner.open(p);
    }

    boolean close(int p) {
        count();
        return inner.close(p);
    }

    boolean put(int n, long bytes) {
        count();
        return inner.put(n, bytes);
    }

    void clear() {
        count();
        inner.clear();
    }

    int wire(int k) {
        count();
        return inner.wire(k);
    }

    int receive(int p) {
        count();
        return inner.receive(p);
    }

    int send(int p) {
        count();
        return inner.send(p);
    }

    int work() {
        count();
        return inner.work();
    }

    int tick(int n) {
        count();
        return inner.tick(n);
    }

    int seal(int time, int weight, int tx) {
        count();
        return inner.seal(time, weight, tx);
    }

    int peer(int p, int which) {
        count();
        return inner.peer(p, which);
    }

    int block(int k, int which) {
        count();
        return inner.block(k, which);
    }

    int tx(int k, int i) {
        count();
        return inner.tx(k, i);
    }

    int state(int which) {
        count();
        return inner.state(which);
    }

    private void count() {
        calls++;
        if (calls > MOST_CALLS) {
            throw new IllegalStateException("a test makes more than " + MOST_CALLS + " calls of one object");
        }
    }
}
