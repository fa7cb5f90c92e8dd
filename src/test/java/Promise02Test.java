/** Promise 2: open. */
public final class Promise02Test {
    private static final Due DUE = new Due();

    public static void main(String[] args) {
        everyPeer();
        noSuchPeer();
        onlyIfClosed();
        resetsBestAndBackButNotScore();
        tellsNumberOfHead();
        tellsNumberNotBlock();
        DUE.end();
    }

    private static void everyPeer() {
        Node x = new Node(300, 1);
        for (int p = 0; p < 4; p++) {
            DUE.is("open", x.open(p), true);
            DUE.is("GREETING", x.peer(p, Talk.STATE), Talk.GREETING);
            DUE.is("one message", x.peer(p, Talk.OUTBOX), 1);
            DUE.bytes("HELLO", Talk.sent(x, p), new int[] {197, 128, 130, 1, 44, 128});
        }
    }

    private static void noSuchPeer() {
        Node x = new Node(1, 1);
        String before = Talk.view(x);
        for (int p : new int[] {-1, 4, Integer.MIN_VALUE, Integer.MAX_VALUE}) {
            DUE.is("open(" + p + ")", x.open(p), false);
        }
        DUE.is("nothing changed", before.equals(Talk.view(x)), true);
    }

    private static void onlyIfClosed() {
        Node x = new Node(1, 1);
        x.open(2);
        DUE.is("open a GREETING one", x.open(2), false);
        DUE.is("its outbox", x.peer(2, Talk.OUTBOX), 1);
        Talk.give(x, 2, Code.hello(1, 4));
        DUE.is("open a READY one", x.open(2), false);
        DUE.is("its BEST", x.peer(2, Talk.BEST), 4);
        Talk.give(x, 2);
        DUE.is("open a BANNED one", x.open(2), false);
        DUE.is("it stays BANNED", x.peer(2, Talk.STATE), Talk.BANNED);
        DUE.is("its outbox stays empty", x.peer(2, Talk.OUTBOX), 0);
    }

    private static void resetsBestAndBackButNotScore() {
        Node x = new Node(1, 9);
        Talk.ready(x, 0, 1, 9);
        x.work();
        Talk.give(x, 0, Code.headers(1, new int[] {5, 1, 1, 8, 0}));
        Talk.give(x, 0, Code.hello(1, 3));
        x.close(0);
        DUE.is("BEST of a CLOSED one", x.peer(0, Talk.BEST), 9);
        DUE.is("BACK of a CLOSED one", x.peer(0, Talk.BACK), 1);
        DUE.is("open again", x.open(0), true);
        DUE.is("BEST", x.peer(0, Talk.BEST), 0);
        DUE.is("BACK", x.peer(0, Talk.BACK), 0);
        DUE.is("SCORE", x.peer(0, Talk.SCORE), -2);
    }

    private static void tellsNumberOfHead() {
        Node x = new Node(1, 9);
        x.seal(1, 8, 1);
        x.seal(2, 8, 1);
        x.open(3);
        x.seal(3, 8, 1);
        DUE.bytes("HELLO as it was when opened", Talk.sent(x, 3), Code.hello(1, 2));
        // A header alone makes a block HEAVIEST, not HEAD.
        Talk.give(x, 3, Code.hello(1, 9));
        x.work();
        int[] last = {x.block(3, 0), x.block(3, 1), x.block(3, 2), x.block(3, 3), x.block(3, 4)};
        Talk.give(x, 3, Code.headers(1, Code.child(last, 9, 9)));
        DUE.is("HEAVIEST", x.state(1), 4);
        x.open(1);
        DUE.bytes("HELLO with the NUMBER of HEAD", Talk.sent(x, 1), Code.hello(1, 3));
    }

    /** HEAD is block 2 here, but its NUMBER is 1. */
    private static void tellsNumberNotBlock() {
        Node x = new Node(1, 9);
        Talk.ready(x, 0, 1, 9);
        x.work();
        Talk.give(x, 0, Code.headers(1, Code.child(Code.GENESIS, 1, 8, 4)));
        x.seal(1, 9, 5);
        DUE.is("HEAD", x.state(2), 2);
        x.open(2);
        DUE.bytes("HELLO with the NUMBER of HEAD", Talk.sent(x, 2), Code.hello(1, 1));
    }
}
