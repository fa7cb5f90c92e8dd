/** Promise 9: work. */
public final class Promise09Test {
    private static final Due DUE = new Due();
    private static final int[] ONE = Code.child(Code.GENESIS, 1, 8, 4);
    private static final int[] TWO = Code.child(ONE, 2, 8);

    public static void main(String[] args) {
        onlyReadyPeers();
        bestAtLeastFrom();
        back();
        bodiesFirst();
        bodiesOfTheHeaviestChainAlone();
        afterATimeoutAnotherIsAsked();
        noHeadersWhenFull();
        ids();
        onlyReadyPeersForBodies();
        deadlines();
        lostMessages();
        DUE.end();
    }

    private static void onlyReadyPeers() {
        Node x = new Node(1, 5);
        x.open(0);
        Talk.ready(x, 1, 1, 9);
        x.open(2);
        Talk.give(x, 2);
        Talk.ready(x, 3, 1, 9);
        x.close(3);
        DUE.is("one is READY", x.work(), 1);
        int[] ids = {0, 1, 0, 0};
        for (int p = 0; p < 4; p++) {
            DUE.is("request of " + p, x.peer(p, Talk.REQUEST), ids[p]);
        }
        DUE.bytes("ASK-HEADERS", Talk.sent(x, 1), Code.askHeaders(1, 1, 2));
        DUE.is("it has a request", x.work(), 0);
        DUE.is("it stays", x.peer(1, Talk.REQUEST), 1);
        DUE.is("nothing is sent", x.send(1), ChainPeers.NONE);
    }

    private static void bestAtLeastFrom() {
        Node x = new Node(1, 5);
        Talk.ready(x, 0, 1, 0);
        DUE.is("BEST 0, from 1", x.work(), 0);
        DUE.is("no id is used", x.state(4), 0);
        Talk.ready(x, 1, 1, 1);
        Talk.ready(x, 2, 1, 2);
        x.seal(1, 8, 1);
        DUE.is("BEST 1 and 2, from 2", x.work(), 1);
        DUE.is("the one with 2", x.peer(2, Talk.REQUEST), 1);
        DUE.bytes("from 2", Talk.sent(x, 2), Code.askHeaders(1, 2, 2));
    }

    private static void back() {
        Node x = new Node(1, 5);
        Talk.ready(x, 0, 1, 9);
        for (int i = 1; i <= 3; i++) {
            x.seal(i, 8, i);
        }
        int[] froms = {4, 3, 2, 1, 1, 1};
        for (int i = 0; i < froms.length; i++) {
            DUE.is("asked", x.work(), 1);
            DUE.bytes("from", Talk.sent(x, 0), Code.askHeaders(i + 1, froms[i], 2));
            Talk.give(x, 0, Code.headers(i + 1, new int[] {99, froms[i], 9, 9, 9}));
            DUE.is("BACK", x.peer(0, Talk.BACK), i + 1);
        }
    }

    private static void bodiesFirst() {
        Node x = new Node(1, 5);
        Talk.ready(x, 0, 1, 9);
        x.work();
        x.send(0);
        Talk.give(x, 0, Code.headers(1, ONE, TWO));
        Talk.ready(x, 1, 1, 0);
        Talk.ready(x, 2, 1, 9);
        Talk.ready(x, 3, 1, 2);
        DUE.is("two bodies and headers; the last has no more to tell", x.work(), 3);
        DUE.bytes("the least NUMBER", Talk.sent(x, 0), Code.askBody(2, Code.hash(ONE)));
        DUE.bytes("the next, whatever BEST is", Talk.sent(x, 1), Code.askBody(3, Code.hash(TWO)));
        DUE.bytes("headers", Talk.sent(x, 2), Code.askHeaders(4, 3, 2));
        DUE.is("nothing", x.peer(3, Talk.REQUEST), 0);
        Talk.give(x, 1, Code.body(3, 9));
        DUE.is("a body that did not match is asked for again", x.work(), 1);
        DUE.is("by the least peer", x.peer(1, Talk.REQUEST), 5);
        DUE.is("nothing more", x.work(), 0);
        x.close(0);
        DUE.is("a CLOSED peer's request is free again", x.work(), 1);
        DUE.bytes("the other", Talk.sent(x, 3), Code.askBody(6, Code.hash(ONE)));
    }

    private static void bodiesOfTheHeaviestChainAlone() {
        Node x = new Node(1, 5);
        Talk.ready(x, 0, 1, 9);
        Talk.ready(x, 1, 1, 9);
        x.work();
        int[] light = Code.child(Code.GENESIS, 5, 7, 1);
        Talk.give(x, 0, Code.headers(1, light));
        Talk.give(x, 1, Code.headers(2, ONE));
        DUE.is("HEAVIEST", x.state(1), 2);
        DUE.is("two are asked", x.work(), 2);
        x.send(0);
        DUE.bytes("the body of ONE", Talk.sent(x, 0), Code.askBody(3, Code.hash(ONE)));
        x.send(1);
        DUE.bytes("not that of the light one", Talk.sent(x, 1), Code.askHeaders(4, 2, 2));
        // Of two with the same TOTAL the least is HEAVIEST.
        Talk.give(x, 1, Code.headers(4));
        x.tick(6);
        Node y = new Node(1, 5);
        Talk.ready(y, 0, 1, 9);
        Talk.ready(y, 1, 1, 9);
        y.work();
        Talk.give(y, 0, Code.headers(1, ONE));
        Talk.give(y, 1, Code.headers(2, Code.child(Code.GENESIS, 5, 8, 1)));
        DUE.is("HEAVIEST", y.state(1), 1);
    }

    private static void afterATimeoutAnotherIsAsked() {
        Node x = new Node(1, 1);
        Talk.ready(x, 3, 1, 9);
        x.work();
        x.send(3);
        Talk.give(x, 3, Code.headers(1, ONE));
        x.work();
        x.send(3);
        Talk.ready(x, 0, 1, 0);
        DUE.is("it is asked for already", x.work(), 0);
        DUE.is("lost", x.tick(2), 1);
        DUE.is("asked again, and headers", x.work(), 2);
        DUE.bytes("the least peer first", Talk.sent(x, 0), Code.askBody(3, Code.hash(ONE)));
        DUE.bytes("headers", Talk.sent(x, 3), Code.askHeaders(4, 2, 2));
        DUE.is("the late body", Talk.give(x, 3, Code.body(2, 4)), ChainPeers.ODD);
        DUE.is("no body", x.block(1, 7), -1);
    }

    private static void noHeadersWhenFull() {
        Node x = new Node(1, 5);
        Talk.ready(x, 0, 1, 99);
        for (int i = 1; i < 19; i++) {
            x.seal(i, 8, i);
        }
        DUE.is("19 blocks", x.work(), 1);
        int[] last = {x.block(18, 0), x.block(18, 1), x.block(18, 2), x.block(18, 3), x.block(18, 4)};
        Talk.give(x, 0, Code.headers(1, Code.child(last, 99, 8)));
        Talk.ready(x, 1, 1, 99);
        DUE.is("20 blocks: a body, but no headers", x.work(), 1);
        DUE.is("peer 0", x.peer(0, Talk.REQUEST), 2);
        DUE.is("peer 1", x.peer(1, Talk.REQUEST), 0);
    }

    private static void ids() {
        Node x = new Node(1, 1);
        for (int p = 0; p < 4; p++) {
            Talk.ready(x, p, 1, 9);
        }
        DUE.is("four", x.work(), 4);
        for (int p = 0; p < 4; p++) {
            DUE.is("id of " + p, x.peer(p, Talk.REQUEST), p + 1);
        }
        x.close(1);
        Talk.ready(x, 1, 1, 9);
        x.work();
        DUE.is("no id comes twice", x.peer(1, Talk.REQUEST), 5);
        DUE.is("the latest", x.state(4), 5);
    }

    /** A node whose peer 3 told it of ONE, the body of which is lacking and not asked for. */
    private static Node lackingABody(int wait) {
        Node x = new Node(1, wait);
        Talk.ready(x, 3, 1, 9);
        x.work();
        x.send(3);
        Talk.give(x, 3, Code.headers(1, ONE));
        return x;
    }

    private static void onlyReadyPeersForBodies() {
        Node x = lackingABody(5);
        x.close(3);
        x.open(0);
        x.open(1);
        Talk.give(x, 1);
        DUE.is("GREETING, BANNED, CLOSED and CLOSED", x.work(), 0);
        DUE.is("no id is used", x.state(4), 1);
        DUE.is("our HELLO alone", x.peer(0, Talk.OUTBOX), 1);
        Talk.give(x, 0, Code.hello(1, 0));
        DUE.is("READY", x.work(), 1);
        DUE.is("its request", x.peer(0, Talk.REQUEST), 2);
    }

    private static void deadlines() {
        Node x = new Node(1, 5);
        x.tick(50);
        Talk.ready(x, 0, 1, 9);
        x.work();
        DUE.is("headers, at TIME + wait", x.tick(5), 0);
        DUE.is("headers, one tick more", x.tick(1), 1);
        Node y = lackingABody(7);
        y.tick(50);
        DUE.is("a body is asked for", y.work(), 1);
        DUE.is("a body, at TIME + wait", y.tick(7), 0);
        DUE.is("a body, one tick more", y.tick(1), 1);
    }

    private static void lostMessages() {
        Node x = lackingABody(5);
        Node y = new Node(1, 5);
        Talk.ready(y, 3, 1, 9);
        for (int id = 1; id <= 4; id++) {
            Talk.give(x, 3, Code.askHeaders(id, 5, 1));
            Talk.give(y, 3, Code.askHeaders(id, 5, 1));
        }
        DUE.is("asked for a body", x.work(), 1);
        DUE.is("the request stands", x.peer(3, Talk.REQUEST), 2);
        DUE.is("its message is lost", x.peer(3, Talk.OUTBOX), 4);
        DUE.is("the body comes", Talk.give(x, 3, Code.body(2, 4)), 4);
        DUE.is("asked for headers", y.work(), 1);
        DUE.is("the request stands", y.peer(3, Talk.REQUEST), 1);
        DUE.is("its message is lost", y.peer(3, Talk.OUTBOX), 4);
        DUE.is("the headers come", Talk.give(y, 3, Code.headers(1, ONE)), 2);
        for (int id = 1; id <= 4; id++) {
            DUE.bytes("what was there before", Talk.sent(x, 3), Code.headers(id));
        }
        DUE.is("no more", x.send(3), ChainPeers.NONE);
    }
}
