/** What tests do with a node again and again. */
final class Talk {
    static final int CLOSED = 0;
    static final int GREETING = 1;
    static final int READY = 2;
    static final int BANNED = 3;

    static final int STATE = 0;
    static final int SCORE = 1;
    static final int BEST = 2;
    static final int BACK = 3;
    static final int REQUEST = 4;
    static final int OUTBOX = 5;

    private Talk() {
    }

    static void lay(Node x, int... bytes) {
        x.clear();
        for (int at = 0; at < bytes.length; at += 8) {
            int n = Math.min(8, bytes.length - at);
            long eight = 0;
            for (int k = 0; k < n; k++) {
                eight = eight << 8 | bytes[at + k];
            }
            x.put(n, eight);
        }
    }

    static int give(Node x, int p, int... bytes) {
        lay(x, bytes);
        return x.receive(p);
    }

    /** Opens peer p, lets it say HELLO and takes our own HELLO out of its outbox. */
    static void ready(Node x, int p, int chain, int best) {
        x.open(p);
        give(x, p, Code.hello(chain, best));
        x.send(p);
    }

    static int[] onWire(Node x) {
        int[] bytes = new int[x.wire(-1)];
        for (int k = 0; k < bytes.length; k++) {
            bytes[k] = x.wire(k);
        }
        return bytes;
    }

    static int[] sent(Node x, int p) {
        return x.send(p) < 0 ? new int[0] : onWire(x);
    }

    /** Takes all that waits for peer p out of its outbox. */
    static void drain(Node x, int p) {
        for (int waiting = x.peer(p, OUTBOX); waiting > 0; waiting--) {
            x.send(p);
        }
    }

    static int[] header(Node x, int k) {
        return new int[] {x.block(k, 0), x.block(k, 1), x.block(k, 2), x.block(k, 3), x.block(k, 4)};
    }

    /** Seals n blocks of WEIGHT 8 on a node that has block 0 alone, with the TIMEs 1, 2, .. */
    static void seal(Node x, int n) {
        for (int i = 1; i <= n; i++) {
            x.seal(i, 8, i);
        }
    }

    /** Seals on a node that has block 0 alone until HEAD has the WEIGHT w, which is 1 .. 99: answers HEAD. */
    static int sealUpTo(Node x, int w) {
        int head = 0;
        int near = 8;
        for (int time = 1; near != w; time++) {
            int room = near / 4 + 1;
            near = near < w ? Math.min(w, near + room) : Math.max(w, near - room);
            head = x.seal(time, near, 1);
        }
        return head;
    }

    /**
     * Lets peer p earn a MERIT: it must be READY, without a request, with a high BEST and BACK 0, and all that is
     * lacking must be the body of HEAVIEST, an empty one, or nothing.
     */
    static void earn(Node x, int p) {
        x.work();
        int id = x.peer(p, REQUEST);
        int heaviest = x.state(1);
        if (x.block(heaviest, 7) < 0) {
            give(x, p, Code.body(id));
        } else {
            int[] header = header(x, heaviest);
            give(x, p, Code.headers(id, Code.child(header, header[2] + 1, header[3])));
        }
        drain(x, p);
    }

    /** A node of chain 1 whose peer 0 is READY with a SCORE of -3 .. 3, no request and an empty outbox. */
    static Node withScore(int score) {
        Node x = new Node(1, 9);
        ready(x, 0, 1, 99);
        for (int i = 0; i < score; i++) {
            earn(x, 0);
        }
        for (int i = 0; i > score; i--) {
            // No request ever has the id 0.
            give(x, 0, Code.headers(0));
        }
        return x;
    }

    /** All that can be seen of a node, but for what is on the wire. */
    static String view(Node x) {
        StringBuilder view = new StringBuilder();
        for (int which = 0; which < 5; which++) {
            view.append(x.state(which)).append(' ');
        }
        for (int p = 0; p < 4; p++) {
            view.append("| ");
            for (int which = 0; which < 6; which++) {
                view.append(x.peer(p, which)).append(' ');
            }
        }
        int blocks = x.state(0);
        for (int k = 0; k < blocks; k++) {
            view.append("/ ");
            int size = 0;
            for (int which = 0; which < 9; which++) {
                int answer = x.block(k, which);
                size = which == 7 ? answer : size;
                view.append(answer).append(' ');
            }
            for (int i = 0; i < size; i++) {
                view.append(x.tx(k, i)).append(' ');
            }
        }
        return view.toString();
    }
}
