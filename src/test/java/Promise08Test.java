/** Promise 8: send. */
public final class Promise08Test {
    private static final Due DUE = new Due();

    public static void main(String[] args) {
        nothingToSend();
        firstInFirstOut();
        lostIfThereAreFour();
        everyKind();
        longestMessages();
        DUE.end();
    }

    private static void nothingToSend() {
        Node x = new Node(1, 1);
        Talk.lay(x, 7, 8);
        for (int p : new int[] {-1, 0, 3, 4, Integer.MIN_VALUE, Integer.MAX_VALUE}) {
            DUE.is("send(" + p + ")", x.send(p), ChainPeers.NONE);
        }
        DUE.bytes("the wire stays", Talk.onWire(x), new int[] {7, 8});
    }

    private static void firstInFirstOut() {
        Node x = new Node(1, 1);
        x.open(0);
        x.open(1);
        Talk.give(x, 0, Code.hello(1, 0));
        Talk.give(x, 0, Code.askBody(1, Code.GENESIS_HASH));
        Talk.give(x, 0, Code.askHeaders(2, 9, 9));
        DUE.is("three", x.peer(0, Talk.OUTBOX), 3);
        Talk.lay(x, new int[56]);
        DUE.is("how many bytes", x.send(0), 4);
        DUE.bytes("HELLO", Talk.onWire(x), Code.hello(1, 0));
        DUE.is("two", x.peer(0, Talk.OUTBOX), 2);
        DUE.is("how many bytes", x.send(0), 4);
        DUE.bytes("BODY", Talk.onWire(x), Code.body(1));
        Talk.give(x, 0, Code.askHeaders(3, 9, 9));
        DUE.bytes("HEADERS", Talk.sent(x, 0), Code.headers(2));
        DUE.bytes("the one that came last", Talk.sent(x, 0), Code.headers(3));
        DUE.is("no more", x.send(0), ChainPeers.NONE);
        DUE.bytes("the wire stays", Talk.onWire(x), Code.headers(3));
        DUE.is("another peer's outbox", x.peer(1, Talk.OUTBOX), 1);
    }

    private static void lostIfThereAreFour() {
        Node x = new Node(1, 1);
        Talk.ready(x, 0, 1, 9);
        for (int id = 1; id <= 6; id++) {
            DUE.is("ASK-HEADERS", Talk.give(x, 0, Code.askHeaders(id, 5, 1)), 1);
            DUE.is("outbox", x.peer(0, Talk.OUTBOX), Math.min(id, 4));
        }
        DUE.is("asked", x.work(), 1);
        DUE.is("the request is there all the same", x.peer(0, Talk.REQUEST), 1);
        for (int id = 1; id <= 4; id++) {
            DUE.bytes("HEADERS", Talk.sent(x, 0), Code.headers(id));
        }
        DUE.is("the rest is lost", x.send(0), ChainPeers.NONE);
        DUE.is("its answer is taken", Talk.give(x, 0, Code.headers(1)), 2);
        for (int id = 7; id <= 9; id++) {
            Talk.give(x, 0, Code.askHeaders(id, 5, 1));
        }
        DUE.bytes("places are used again", Talk.sent(x, 0), Code.headers(7));
    }

    private static void everyKind() {
        Node x = new Node(1, 1);
        x.open(0);
        DUE.bytes("HELLO", Talk.sent(x, 0), new int[] {195, 128, 1, 128});
        Talk.give(x, 0, Code.hello(1, 9));
        x.work();
        DUE.bytes("ASK-HEADERS", Talk.sent(x, 0), new int[] {196, 1, 1, 1, 2});
        int[] one = Code.child(Code.GENESIS, 1, 8, 200);
        Talk.give(x, 0, Code.headers(1, one));
        x.work();
        DUE.bytes("ASK-BODY", Talk.sent(x, 0), Code.askBody(2, Code.hash(one)));
        Talk.give(x, 0, Code.body(2, 200));
        Talk.give(x, 0, Code.askBody(128, Code.hash(one)));
        DUE.bytes("BODY", Talk.sent(x, 0), new int[] {198, 4, 129, 128, 194, 129, 200});
        Talk.give(x, 0, Code.askHeaders(0, 0, 1));
        DUE.bytes("HEADERS", Talk.sent(x, 0), new int[] {201, 2, 128, 198, 197, 128, 128, 128, 8, 128});
    }

    private static void longestMessages() {
        int big = Integer.MAX_VALUE;
        Node x = new Node(big, 1);
        int[] body = {big, big, big, big, big, big, big, big};
        int[] one = Code.child(Code.GENESIS, big - 1, 8, body);
        int[] two = Code.child(one, big, 8, body);
        Talk.ready(x, 0, big, big);
        x.work();
        DUE.is("taken", Talk.give(x, 0, Code.headers(1, one, two)), 2);
        x.work();
        DUE.is("taken", Talk.give(x, 0, Code.body(2, body)), 4);
        x.work();
        DUE.is("taken", Talk.give(x, 0, Code.body(3, body)), 4);
        for (int i = 0; i < 3; i++) {
            x.send(0);
        }
        Talk.give(x, 0, Code.askHeaders(big, 1, big));
        int[] headers = Code.headers(big, one, two);
        DUE.is("how many bytes", x.send(0), headers.length);
        DUE.bytes("HEADERS", Talk.onWire(x), headers);
        Talk.give(x, 0, Code.askBody(big, Code.hash(two)));
        DUE.is("how many bytes", x.send(0), 48);
        DUE.bytes("BODY", Talk.onWire(x), Code.body(big, body));
    }
}
