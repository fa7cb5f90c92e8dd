/** What tests do with a node again and again. */
final class Talk {
    static final int CLOSED = 0;
    static final int GREETING = 1;
    static final int READY = 2;
    static final int BANNED = 3;

    static final int STATE = 0;
    static final int SCORE = 1;
    static final int BEST = 2;
    static final int BACK = 3;
    static final int REQUEST = 4;
    static final int OUTBOX = 5;

    private Talk() {
    }

    static void lay(ChainPeers x, int... bytes) {
        x.clear();
        for (int b : bytes) {
            x.put(1, b);
        }
    }

    static int give(ChainPeers x, int p, int... bytes) {
        lay(x, bytes);
        return x.receive(p);
    }

    /** Opens peer p, lets it say HELLO and takes our own HELLO out of its outbox. */
    static void ready(ChainPeers x, int p, int chain, int best) {
        x.open(p);
        give(x, p, Code.hello(chain, best));
        x.send(p);
    }

    static int[] onWire(ChainPeers x) {
        int[] bytes = new int[x.wire(-1)];
        for (int k = 0; k < bytes.length; k++) {
            bytes[k] = x.wire(k);
        }
        return bytes;
    }

    static int[] sent(ChainPeers x, int p) {
        return x.send(p) < 0 ? new int[0] : onWire(x);
    }

    /** All that can be seen of a node, but for what is on the wire. */
    static String view(ChainPeers x) {
        StringBuilder view = new StringBuilder();
        for (int which = 0; which < 5; which++) {
            view.append(x.state(which)).append(' ');
        }
        for (int p = 0; p < 4; p++) {
            for (int which = 0; which < 6; which++) {
                view.append(x.peer(p, which)).append(' ');
            }
        }
        for (int k = 0; k < x.state(0); k++) {
            for (int which = 0; which < 9; which++) {
                view.append(x.block(k, which)).append(' ');
            }
            for (int i = 0; i < 8; i++) {
                view.append(x.tx(k, i)).append(' ');
            }
        }
        return view.toString();
    }
}
