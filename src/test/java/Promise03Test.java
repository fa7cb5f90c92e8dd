/** Promise 3: close. */
public final class Promise03Test {
    private static final Due DUE = new Due();

    public static void main(String[] args) {
        Node x = new Node(1, 1);
        for (int p : new int[] {-1, 0, 3, 4, Integer.MIN_VALUE, Integer.MAX_VALUE}) {
            DUE.is("close(" + p + ") of a new object", x.close(p), false);
        }
        x.open(0);
        DUE.is("close a GREETING one", x.close(0), true);
        DUE.is("CLOSED", x.peer(0, Talk.STATE), Talk.CLOSED);
        DUE.is("its outbox", x.peer(0, Talk.OUTBOX), 0);
        DUE.is("nothing to send", x.send(0), ChainPeers.NONE);
        DUE.is("close it again", x.close(0), false);

        Talk.ready(x, 0, 1, 9);
        x.work();
        DUE.is("it has a request", x.peer(0, Talk.REQUEST), 1);
        DUE.is("close a READY one", x.close(0), true);
        DUE.is("no request", x.peer(0, Talk.REQUEST), 0);
        DUE.is("no outbox", x.peer(0, Talk.OUTBOX), 0);
        DUE.is("no FAULT by a request that is gone", x.tick(50), 0);
        DUE.is("SCORE", x.peer(0, Talk.SCORE), 0);
        DUE.is("receive", Talk.give(x, 0, Code.bye()), ChainPeers.NONE);

        Talk.ready(x, 0, 1, 9);
        DUE.is("the old request's answer", Talk.give(x, 0, Code.headers(1)), ChainPeers.ODD);
        DUE.is("SCORE", x.peer(0, Talk.SCORE), -1);

        x.open(1);
        Talk.give(x, 1);
        DUE.is("close a BANNED one", x.close(1), false);
        DUE.is("it stays BANNED", x.peer(1, Talk.STATE), Talk.BANNED);
        nothingElseChanges();
        DUE.end();
    }

    private static void nothingElseChanges() {
        Node x = new Node(1, 1);
        x.seal(1, 8, 1);
        for (int p = 0; p < 4; p++) {
            Talk.ready(x, p, 1, 9);
        }
        x.work();
        Talk.give(x, 2, Code.headers(3, new int[] {5, 2, 9, 9, 9}));
        Talk.give(x, 2, Code.hello(1, 7));
        String[] before = new String[4];
        for (int p = 0; p < 4; p++) {
            before[p] = view(x, p);
        }
        Talk.lay(x, 1, 2, 3);
        DUE.is("close", x.close(2), true);
        DUE.is("SCORE stays", x.peer(2, Talk.SCORE), -2);
        DUE.is("BEST stays", x.peer(2, Talk.BEST), 9);
        DUE.is("BACK stays", x.peer(2, Talk.BACK), 1);
        for (int p : new int[] {0, 1, 3}) {
            DUE.is("peer " + p + " stays", view(x, p), before[p]);
        }
        DUE.is("blocks", x.state(0), 2);
        DUE.bytes("the wire stays", Talk.onWire(x), new int[] {1, 2, 3});
    }

    private static String view(Node x, int p) {
        StringBuilder view = new StringBuilder();
        for (int which = 0; which < 6; which++) {
            view.append(x.peer(p, which)).append(' ');
        }
        return view.toString();
    }
}
