/** 'An object is used for at most 512 calls after it has been made': the last of them is as good as the first. */
public final class LongUseTest {
    private static final Due DUE = new Due();

    public static void main(String[] args) {
        DUE.sentence("An object is used for at most 512 calls after it has been made");
        lookAtNothingElse();
        manyTicks();
        manyIds();
        manyTimesBack();
        manyMessages();
        manyRefusals();
        manyOpenings();
        DUE.end();
    }

    private static void used(String name, Node x) {
        DUE.is(name + ": calls that are left", x.callsLeft(), 0);
    }

    private static void lookAtNothingElse() {
        Node x = new Node(1, 9);
        for (int i = 0; i < 511; i++) {
            x.clear();
        }
        DUE.is("the 512th call, open(0)", x.open(0), true);
        used("clear", x);
    }

    private static void manyTicks() {
        Node x = new Node(1, 30);
        Talk.ready(x, 0, 1, 9);
        while (x.callsLeft() > 5) {
            x.tick(50);
        }
        int time = x.state(3);
        DUE.is("TIME in fifties", time % 50, 0);
        DUE.is("TIME after some 500 calls", time, 50 * 502);
        DUE.is("asked", x.work(), 1);
        DUE.is("at the DEADLINE", x.tick(30), 0);
        DUE.is("behind it", x.tick(1), 1);
        DUE.is("TIME", x.state(3), time + 31);
        used("tick", x);
    }

    /** So many ids that their codes grow by a byte. */
    private static void manyIds() {
        Node x = new Node(1, 9);
        Talk.lay(x, Code.hello(1, 9));
        int id = 0;
        for (int round = 0; round < 34; round++) {
            for (int p = 0; p < 4; p++) {
                x.open(p);
                x.receive(p);
            }
            DUE.is("asked", x.work(), 4);
            id += 4;
            DUE.is("its id", x.peer(3, Talk.REQUEST), id);
            if (id == 128) {
                asks(x, 2, 127);
                asks(x, 3, 128);
                Talk.lay(x, Code.hello(1, 9));
            }
            for (int p = 0; p < 4; p++) {
                x.close(p);
            }
        }
        DUE.is("the latest id", x.state(4), 136);
    }

    /** Holds the message behind HELLO in an outbox. */
    private static void asks(Node x, int p, int id) {
        x.send(p);
        DUE.bytes("ASK-HEADERS " + id, Talk.sent(x, p), Code.askHeaders(id, 1, 2));
    }

    private static void manyTimesBack() {
        Node x = new Node(1, 9);
        Talk.ready(x, 0, 1, 99);
        int back = 0;
        while (x.callsLeft() > 16) {
            x.work();
            back++;
            Talk.give(x, 0, Code.headers(back, new int[] {5, 1, 1, 8, 0}));
        }
        DUE.is("BACK", x.peer(0, Talk.BACK), back);
        DUE.is("it grew far", back > 80, true);
        DUE.is("asked", x.work(), 1);
        DUE.bytes("the first of the outbox", Talk.sent(x, 0), Code.askHeaders(1, 1, 2));
    }

    private static void manyMessages() {
        Node x = new Node(1, 9);
        Talk.ready(x, 0, 1, 0);
        Talk.lay(x, Code.askBody(300, Code.GENESIS_HASH));
        while (x.callsLeft() > 15) {
            DUE.is("ASK-BODY", x.receive(0), 3);
        }
        DUE.is("in the outbox", x.peer(0, Talk.OUTBOX), 4);
        DUE.bytes("the first", Talk.sent(x, 0), Code.body(300));
        DUE.is("in the outbox", x.peer(0, Talk.OUTBOX), 3);
    }

    private static void manyRefusals() {
        Node x = new Node(1, 9);
        Talk.seal(x, 19);
        x.open(0);
        while (x.callsLeft() > 16) {
            DUE.is("seal", x.seal(99, 8, 1), ChainPeers.NONE);
            DUE.is("open", x.open(0), false);
            DUE.is("close", x.close(1), false);
            DUE.is("tick", x.tick(51), ChainPeers.NONE);
            DUE.is("put", x.put(9, 1), false);
            DUE.is("send", x.send(2), ChainPeers.NONE);
            DUE.is("receive", x.receive(3), ChainPeers.NONE);
        }
        DUE.is("blocks", x.state(0), 20);
        DUE.is("TIME", x.state(3), 0);
        DUE.is("how many on the wire", x.wire(-1), 0);
        DUE.is("in the outbox", x.peer(0, Talk.OUTBOX), 1);
        DUE.is("SCORE of the CLOSED one", x.peer(3, Talk.SCORE), 0);
        DUE.is("HELLO", x.send(0), 4);
    }

    private static void manyOpenings() {
        Node x = new Node(1, 9);
        for (int i = 0; i < 255; i++) {
            DUE.is("open", x.open(2), true);
            DUE.is("close", x.close(2), true);
        }
        DUE.is("open", x.open(2), true);
        DUE.is("its outbox, at the 512th call", x.peer(2, Talk.OUTBOX), 1);
        used("open and close", x);
    }
}
