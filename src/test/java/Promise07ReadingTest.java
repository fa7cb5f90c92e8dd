/** Promise 7: receive, as to what READING a message does. */
public final class Promise07ReadingTest {
    private static final Due DUE = new Due();
    private static final int ODD = ChainPeers.ODD;
    private static final int[] ONE = Code.child(Code.GENESIS, 1, 8, 4, 5);
    private static final int[] TWO = Code.child(ONE, 2, 9);
    private static final int[] THREE = Code.child(TWO, 3, 10, 6);

    public static void main(String[] args) {
        greeting();
        helloAndByeOfReady();
        askHeaders();
        askHeadersOfAFork();
        askBody();
        askBodyOfAny();
        askingIsNoMerit();
        headersNotAskedFor();
        requestsThatAreDone();
        emptyHeaders();
        headersFromElsewhere();
        unknownHeaders();
        takenHeaders();
        unlinkedHeaders();
        knownHeaders();
        goodHeaders();
        fullOfBlocks();
        bodies();
        bodiesOutOfOrder();
        meritsAndFaults();
        DUE.end();
    }

    private static Node node(int best) {
        Node x = new Node(1, 9);
        Talk.ready(x, 0, 1, best);
        return x;
    }

    /** A node that knows ONE, TWO and THREE and has the bodies of the first bodies of them. */
    private static Node grown(int bodies) {
        Node x = node(99);
        x.work();
        Talk.give(x, 0, Code.headers(1, ONE, TWO, THREE));
        int[][] all = {{4, 5}, {}, {6}};
        for (int i = 0; i < bodies; i++) {
            x.work();
            Talk.give(x, 0, Code.body(2 + i, all[i]));
        }
        while (x.send(0) > 0) {
            x.clear();
        }
        return x;
    }

    private static void greeting() {
        int[][] wrong = {Code.askHeaders(1, 1, 1), Code.headers(0), Code.headers(1, ONE), Code.askBody(1, 1), Code.body(0)};
        for (int[] message : wrong) {
            Node x = new Node(1, 9);
            x.open(0);
            DUE.is("GREETING: kind " + message[1], Talk.give(x, 0, message), ODD);
            DUE.is("a FAULT of 2", x.peer(0, Talk.SCORE), -2);
            DUE.is("still GREETING", x.peer(0, Talk.STATE), Talk.GREETING);
            DUE.is("nothing is sent", x.peer(0, Talk.OUTBOX), 1);
            DUE.is("again", x.receive(0), ODD);
            DUE.is("BANNED", x.peer(0, Talk.STATE), Talk.BANNED);
            DUE.is("SCORE", x.peer(0, Talk.SCORE), -4);
        }
        Node x = new Node(1, 9);
        x.open(0);
        DUE.is("BYE", Talk.give(x, 0, Code.bye()), 5);
        DUE.is("CLOSED", x.peer(0, Talk.STATE), Talk.CLOSED);
        DUE.is("outbox", x.peer(0, Talk.OUTBOX), 0);
        x.open(0);
        DUE.is("another chain", Talk.give(x, 0, Code.hello(2, 7)), 0);
        DUE.is("CLOSED", x.peer(0, Talk.STATE), Talk.CLOSED);
        DUE.is("outbox", x.peer(0, Talk.OUTBOX), 0);
        DUE.is("no BEST", x.peer(0, Talk.BEST), 0);
        DUE.is("no FAULT", x.peer(0, Talk.SCORE), 0);
        x.open(0);
        DUE.is("our chain", Talk.give(x, 0, Code.hello(1, Integer.MAX_VALUE)), 0);
        DUE.is("READY", x.peer(0, Talk.STATE), Talk.READY);
        DUE.is("BEST", x.peer(0, Talk.BEST), Integer.MAX_VALUE);
        DUE.is("our HELLO is still there", x.peer(0, Talk.OUTBOX), 1);
        DUE.is("no MERIT", x.peer(0, Talk.SCORE), 0);
    }

    private static void helloAndByeOfReady() {
        Node x = node(3);
        DUE.is("HELLO of a READY one", Talk.give(x, 0, Code.hello(1, 8)), ODD);
        DUE.is("a FAULT of 2", x.peer(0, Talk.SCORE), -2);
        DUE.is("BEST stays", x.peer(0, Talk.BEST), 3);
        x.work();
        DUE.is("BYE", Talk.give(x, 0, Code.bye()), 5);
        DUE.is("CLOSED", x.peer(0, Talk.STATE), Talk.CLOSED);
        DUE.is("no request", x.peer(0, Talk.REQUEST), 0);
        DUE.is("no outbox", x.peer(0, Talk.OUTBOX), 0);
        DUE.is("SCORE stays", x.peer(0, Talk.SCORE), -2);
        DUE.is("BEST stays", x.peer(0, Talk.BEST), 3);
    }

    private static void asked(Node x, int from, int count, int[]... want) {
        String name = "ASK-HEADERS from " + from + ", " + count;
        DUE.is(name, Talk.give(x, 0, Code.askHeaders(77, from, count)), 1);
        DUE.bytes(name, Talk.sent(x, 0), Code.headers(77, want));
        DUE.is(name + ": outbox", x.peer(0, Talk.OUTBOX), 0);
    }

    private static void askHeaders() {
        Node x = grown(3);
        asked(x, 0, 2, Code.GENESIS, ONE);
        asked(x, 0, 1, Code.GENESIS);
        asked(x, 0, 0);
        asked(x, 1, 3, ONE, TWO);
        asked(x, 2, Integer.MAX_VALUE, TWO, THREE);
        asked(x, 3, 2, THREE);
        asked(x, 4, 2);
        asked(x, Integer.MAX_VALUE, Integer.MAX_VALUE);
        asked(x, Integer.MAX_VALUE - 1, 2);
        DUE.is("no FAULT, no MERIT", x.peer(0, Talk.SCORE), 3);
        // HEAD ends where the bodies do, though HEAVIEST goes on.
        asked(grown(1), 0, 2, Code.GENESIS, ONE);
        asked(grown(1), 1, 2, ONE);
        asked(grown(1), 2, 2);
    }

    /** The CHAIN of HEAD is blocks 0, 2 and 3 here: block 1 has no body, and NUMBERs are not blocks. */
    private static void askHeadersOfAFork() {
        Node x = node(9);
        x.work();
        Talk.give(x, 0, Code.headers(1, ONE));
        x.seal(1, 9, 5);
        x.seal(2, 9, 6);
        Talk.drain(x, 0);
        DUE.is("HEAD", x.state(2), 3);
        asked(x, 0, 2, Code.GENESIS, Talk.header(x, 2));
        asked(x, 1, 2, Talk.header(x, 2), Talk.header(x, 3));
        asked(x, 2, 2, Talk.header(x, 3));
        asked(x, 3, 2);
    }

    private static void askBody() {
        Node x = grown(2);
        DUE.is("a body", Talk.give(x, 0, Code.askBody(300, Code.hash(ONE))), 3);
        DUE.bytes("BODY", Talk.sent(x, 0), Code.body(300, 4, 5));
        Talk.give(x, 0, Code.askBody(0, Code.GENESIS_HASH));
        DUE.bytes("the body of block 0", Talk.sent(x, 0), Code.body(0));
        Talk.give(x, 0, Code.askBody(1, Code.hash(TWO)));
        DUE.bytes("an empty body that came", Talk.sent(x, 0), Code.body(1));
        DUE.is("a block without a body", Talk.give(x, 0, Code.askBody(1, Code.hash(THREE))), 3);
        DUE.is("nothing is sent", x.send(0), ChainPeers.NONE);
        DUE.is("no block", Talk.give(x, 0, Code.askBody(1, 12345)), 3);
        DUE.is("nothing is sent", x.send(0), ChainPeers.NONE);
        DUE.is("no FAULT", x.peer(0, Talk.SCORE), 3);
    }

    /** A block that is not IMPORTED has its body all the same, and so has one that is not in the CHAIN of HEAD. */
    private static void askBodyOfAny() {
        Node x = grown(0);
        Talk.ready(x, 1, 1, 99);
        x.work();
        Talk.give(x, 1, Code.body(3));
        Talk.drain(x, 0);
        DUE.is("TWO is not IMPORTED", x.block(2, 8), 0);
        Talk.give(x, 0, Code.askBody(7, Code.hash(TWO)));
        DUE.bytes("BODY", Talk.sent(x, 0), Code.body(7));
        x.seal(1, 8, 70);
        DUE.is("HEAD", x.state(2), 4);
        Talk.give(x, 0, Code.body(2, 4, 5));
        DUE.is("HEAD", x.state(2), 2);
        Talk.give(x, 0, Code.askBody(8, x.block(4, 5)));
        DUE.bytes("BODY", Talk.sent(x, 0), Code.body(8, 70));
    }

    private static void askingIsNoMerit() {
        Node x = node(0);
        Talk.give(x, 0, Code.askHeaders(1, 0, 2));
        DUE.is("SCORE after ASK-HEADERS", x.peer(0, Talk.SCORE), 0);
        Talk.give(x, 0, Code.askBody(1, Code.GENESIS_HASH));
        DUE.is("SCORE after ASK-BODY", x.peer(0, Talk.SCORE), 0);
        Talk.give(x, 0, Code.askBody(1, 12345));
        DUE.is("SCORE after ASK-BODY in vain", x.peer(0, Talk.SCORE), 0);
    }

    private static void headersNotAskedFor() {
        Node x = node(9);
        DUE.is("no request", Talk.give(x, 0, Code.headers(0)), ODD);
        DUE.is("a FAULT of 1", x.peer(0, Talk.SCORE), -1);
        x.work();
        DUE.is("another id", Talk.give(x, 0, Code.headers(2, ONE)), ODD);
        DUE.is("a FAULT of 1", x.peer(0, Talk.SCORE), -2);
        DUE.is("the request stays", x.peer(0, Talk.REQUEST), 1);
        DUE.is("a body for headers", Talk.give(x, 0, Code.body(1)), ODD);
        DUE.is("a FAULT of 1", x.peer(0, Talk.SCORE), -3);
        DUE.is("the request stays", x.peer(0, Talk.REQUEST), 1);
        DUE.is("no block", x.state(0), 1);
        DUE.is("what was asked for", Talk.give(x, 0, Code.headers(1, ONE)), 2);
        DUE.is("a MERIT", x.peer(0, Talk.SCORE), -2);
    }

    /** What was a request is none when it is done: neither its own id nor 0 stands for it. */
    private static void requestsThatAreDone() {
        for (int id : new int[] {0, 1}) {
            Node x = node(9);
            x.work();
            Talk.give(x, 0, Code.headers(1, ONE));
            DUE.is("HEADERS " + id, Talk.give(x, 0, Code.headers(id, TWO)), ODD);
            DUE.is("a FAULT of 1", x.peer(0, Talk.SCORE), 0);
            DUE.is("no block", x.state(0), 2);
        }
        for (int id : new int[] {0, 2}) {
            Node x = node(9);
            x.work();
            Talk.give(x, 0, Code.headers(1, ONE));
            x.work();
            Talk.give(x, 0, Code.body(2, 4, 5));
            DUE.is("BODY " + id, Talk.give(x, 0, Code.body(id, 4, 5)), ODD);
            DUE.is("a FAULT of 1", x.peer(0, Talk.SCORE), 1);
        }
    }

    private static void emptyHeaders() {
        Node x = node(99);
        x.seal(1, 8, 1);
        x.seal(2, 8, 1);
        x.work();
        DUE.is("none", Talk.give(x, 0, Code.headers(1)), 2);
        DUE.is("BEST", x.peer(0, Talk.BEST), 2);
        DUE.is("done", x.peer(0, Talk.REQUEST), 0);
        DUE.is("neither MERIT nor FAULT", x.peer(0, Talk.SCORE), 0);
        Node y = node(99);
        y.work();
        Talk.give(y, 0, Code.headers(1, new int[] {5, 1, 1, 8, 0}));
        y.work();
        Talk.give(y, 0, Code.headers(2));
        DUE.is("BEST", y.peer(0, Talk.BEST), 0);
        DUE.is("BACK stays", y.peer(0, Talk.BACK), 1);
    }

    private static void headersFromElsewhere() {
        Node x = node(99);
        x.work();
        DUE.is("NUMBER is not from", Talk.give(x, 0, Code.headers(1, TWO)), ODD);
        DUE.is("a FAULT of 2", x.peer(0, Talk.SCORE), -2);
        DUE.is("done", x.peer(0, Talk.REQUEST), 0);
        DUE.is("BACK", x.peer(0, Talk.BACK), 0);
        DUE.is("BEST", x.peer(0, Talk.BEST), 99);
        Node y = node(99);
        y.work();
        DUE.is("block 0 is not from 1 on", Talk.give(y, 0, Code.headers(1, Code.GENESIS, ONE)), ODD);
        DUE.is("no block", y.state(0), 1);
    }

    private static void unknownHeaders() {
        Node x = node(99);
        for (int back = 1; back <= 3; back++) {
            x.work();
            int[] stranger = {1000 + back, 1, 1, 8, 0};
            DUE.is("a stranger", Talk.give(x, 0, Code.headers(back, stranger, Code.child(stranger, 2, 8))), 2);
            DUE.is("BACK", x.peer(0, Talk.BACK), back);
        }
        DUE.is("no block", x.state(0), 1);
        DUE.is("SCORE", x.peer(0, Talk.SCORE), 0);
        x.work();
        DUE.is("a FAULT", Talk.give(x, 0, Code.headers(4, Code.child(Code.GENESIS, 1, 30))), ODD);
        DUE.is("BACK stays", x.peer(0, Talk.BACK), 3);
        x.work();
        DUE.is("what fits", Talk.give(x, 0, Code.headers(5, ONE)), 2);
        DUE.is("BACK is 0 again", x.peer(0, Talk.BACK), 0);
        DUE.is("a MERIT", x.peer(0, Talk.SCORE), -1);
    }

    private static void takenHeaders() {
        Node x = node(99);
        x.work();
        DUE.is("three, though two were asked for", Talk.give(x, 0, Code.headers(1, ONE, TWO, THREE)), 2);
        DUE.is("blocks", x.state(0), 4);
        DUE.is("HEAVIEST", x.state(1), 3);
        DUE.is("HEAD", x.state(2), 0);
        DUE.is("one MERIT", x.peer(0, Talk.SCORE), 1);
        DUE.is("done", x.peer(0, Talk.REQUEST), 0);
        for (int i = 0; i < 5; i++) {
            DUE.is("block(1, " + i + ")", x.block(1, i), ONE[i]);
            DUE.is("block(2, " + i + ")", x.block(2, i), TWO[i]);
            DUE.is("block(3, " + i + ")", x.block(3, i), THREE[i]);
        }
        DUE.is("no body, though its ROOT is that of the empty one", x.block(2, 7), -1);
        DUE.is("not IMPORTED", x.block(2, 8), 0);
        Node y = node(99);
        y.work();
        int[] bad = Code.child(TWO, 2, 9);
        DUE.is("the third is not GOOD", Talk.give(y, 0, Code.headers(1, ONE, TWO, bad)), ODD);
        DUE.is("the first two stay", y.state(0), 3);
        DUE.is("a FAULT of 2", y.peer(0, Talk.SCORE), -2);
        Node z = node(99);
        z.work();
        DUE.is("the second is not GOOD", Talk.give(z, 0, Code.headers(1, ONE, Code.child(ONE, 1, 9), TWO)), ODD);
        DUE.is("the rest is passed over", z.state(0), 2);
    }

    private static void unlinkedHeaders() {
        Node x = node(99);
        x.work();
        int[] brother = Code.child(Code.GENESIS, 5, 7);
        DUE.is("GOOD, but not behind the one before", Talk.give(x, 0, Code.headers(1, ONE, brother)), ODD);
        DUE.is("the first stays", x.state(0), 2);
        DUE.is("a FAULT of 2", x.peer(0, Talk.SCORE), -2);
        Node y = node(99);
        y.work();
        Talk.give(y, 0, Code.headers(1, ONE));
        y.work();
        Talk.give(y, 0, Code.body(2, 4, 5));
        y.work();
        int[] unknown = new int[] {Code.hash(TWO), 2, 3, 9, 1};
        DUE.is("the parent is its own kind", Talk.give(y, 0, Code.headers(3, TWO, unknown)), ODD);
        DUE.is("blocks", y.state(0), 3);
        DUE.is("SCORE", y.peer(0, Talk.SCORE), 0);
    }

    private static void knownHeaders() {
        Node x = new Node(1, 9);
        Talk.ready(x, 0, 1, 99);
        Talk.ready(x, 1, 1, 99);
        Talk.ready(x, 2, 1, 99);
        x.work();
        Talk.give(x, 0, Code.headers(1, ONE));
        DUE.is("known and new", Talk.give(x, 1, Code.headers(2, ONE, TWO)), 2);
        DUE.is("blocks", x.state(0), 3);
        DUE.is("a MERIT", x.peer(1, Talk.SCORE), 1);
        int[] brother = Code.child(Code.GENESIS, 5, 7);
        int[] nephew = Code.child(brother, 6, 7);
        // A known one is passed over wherever it stands; the one behind it must be linked to it all the same.
        DUE.is("known, though not linked", Talk.give(x, 2, Code.headers(3, brother, TWO)), 2);
        DUE.is("blocks", x.state(0), 4);
        DUE.is("a MERIT", x.peer(2, Talk.SCORE), 1);
        Talk.ready(x, 3, 1, 99);
        x.work();
        Talk.give(x, 0, Code.body(4, 4, 5));
        Talk.give(x, 1, Code.body(5));
        x.work();
        DUE.is("a request for headers", x.peer(3, Talk.REQUEST) > 0, true);
        int id = x.peer(3, Talk.REQUEST);
        Talk.give(x, 3, Code.headers(id, new int[] {8, 3, 9, 9, 9}));
        x.work();
        id = x.peer(3, Talk.REQUEST);
        DUE.is("linked to another than the one before", Talk.give(x, 3, Code.headers(id, TWO, nephew)), ODD);
        DUE.is("blocks", x.state(0), 4);
    }

    /** What is the answer to a header behind block 1, which has the WEIGHT w, with weight and time as given. */
    private static int takes(int w, int time, int weight, int number) {
        Node x = new Node(1, 9);
        int near = 8;
        int last = 0;
        // Seals its way to a block of that WEIGHT.
        for (int at = 1; near != w && at < 20; at++) {
            near = near < w ? Math.min(w, near + near / 4 + 1) : Math.max(w, near - near / 4 - 1);
            last = x.seal(at, near, 1);
        }
        Talk.ready(x, 0, 1, 99);
        x.work();
        int[] header = {x.block(last, 5), x.block(last, 1) + number, x.block(last, 2) + time, weight, 0};
        return Talk.give(x, 0, Code.headers(1, header));
    }

    private static void goodHeaders() {
        for (int w : new int[] {1, 3, 4, 7, 8, 11, 12, 50, 95, 99}) {
            int room = w / 4 + 1;
            for (int weight = 0; weight <= 130; weight++) {
                boolean good = weight >= 1 && weight <= 99 && weight >= w - room && weight <= w + room;
                DUE.is("WEIGHT " + weight + " behind " + w, takes(w, 1, weight, 1), good ? 2 : ODD);
            }
        }
        DUE.is("WEIGHT 2^31 - 1", takes(8, 1, Integer.MAX_VALUE, 1), ODD);
        DUE.is("the same TIME", takes(8, 0, 8, 1), ODD);
        DUE.is("a later TIME", takes(8, 1000, 8, 1), 2);
        DUE.is("the latest TIME", takes(8, Integer.MAX_VALUE, 8, 1), 2);
        // The first header's NUMBER is looked at before, so only a later one can be wrong by its NUMBER alone.
        for (int number : new int[] {0, 1, 3, Integer.MAX_VALUE}) {
            Node x = node(99);
            x.work();
            int[] second = TWO.clone();
            second[1] = number;
            DUE.is("NUMBER " + number + " behind 1", Talk.give(x, 0, Code.headers(1, ONE, second)), ODD);
            DUE.is("blocks", x.state(0), 2);
        }
    }

    private static void fullOfBlocks() {
        Node x = node(99);
        for (int i = 1; i < 19; i++) {
            DUE.is("seal", x.seal(i, 8, i), i);
        }
        x.work();
        int[] last = {x.block(18, 0), x.block(18, 1), x.block(18, 2), x.block(18, 3), x.block(18, 4)};
        int[] a = Code.child(last, 50, 8, 1);
        int[] b = Code.child(a, 51, 8);
        int[] c = Code.child(b, 51, 8);
        DUE.is("one fits", Talk.give(x, 0, Code.headers(1, a, b, c)), 2);
        DUE.is("20 blocks", x.state(0), 20);
        DUE.is("the last one", x.block(19, 5), Code.hash(a));
        DUE.is("a MERIT", x.peer(0, Talk.SCORE), 1);
        DUE.is("no block 20", x.block(20, 0), ChainPeers.NONE);
        Node y = node(99);
        Talk.ready(y, 1, 1, 99);
        y.work();
        for (int i = 1; i < 20; i++) {
            y.seal(i, 8, i);
        }
        int[] wrong = Code.child(Code.GENESIS, 5, 30);
        DUE.is("not GOOD, though full", Talk.give(y, 0, Code.headers(1, wrong)), ODD);
        DUE.is("GOOD, though full", Talk.give(y, 1, Code.headers(2, Code.child(Code.GENESIS, 99, 9))), 2);
        DUE.is("a MERIT", y.peer(1, Talk.SCORE), 1);
        DUE.is("20 blocks", y.state(0), 20);
    }

    private static void bodies() {
        Node x = grown(0);
        DUE.is("no request", Talk.give(x, 0, Code.body(0)), ODD);
        DUE.is("a FAULT of 1", x.peer(0, Talk.SCORE), 0);
        x.work();
        DUE.is("another id", Talk.give(x, 0, Code.body(3, 4, 5)), ODD);
        DUE.is("headers for a body", Talk.give(x, 0, Code.headers(2)), ODD);
        DUE.is("the request stays", x.peer(0, Talk.REQUEST), 2);
        DUE.is("two FAULTs of 1", x.peer(0, Talk.SCORE), -2);
        DUE.is("the body", Talk.give(x, 0, Code.body(2, 4, 5)), 4);
        DUE.is("a MERIT", x.peer(0, Talk.SCORE), -1);
        DUE.is("done", x.peer(0, Talk.REQUEST), 0);
        DUE.is("how many", x.block(1, 7), 2);
        DUE.is("tx(1, 0)", x.tx(1, 0), 4);
        DUE.is("tx(1, 1)", x.tx(1, 1), 5);
        DUE.is("HEAD", x.state(2), 1);
        x.work();
        DUE.is("a wrong body", Talk.give(x, 0, Code.body(3, 9)), ODD);
        DUE.is("a FAULT of 2", x.peer(0, Talk.SCORE), -3);
        DUE.is("no body", x.block(2, 7), -1);
        DUE.is("done", x.peer(0, Talk.REQUEST), 0);
        x.work();
        DUE.is("the empty body", Talk.give(x, 0, Code.body(4)), 4);
        DUE.is("it has one now", x.block(2, 7), 0);
        DUE.is("HEAD", x.state(2), 2);
        x.work();
        DUE.is("another order or number of numbers", Talk.give(x, 0, Code.body(5, 6, 6)), ODD);
        DUE.is("BANNED", x.peer(0, Talk.STATE), Talk.BANNED);
        DUE.is("SCORE", x.peer(0, Talk.SCORE), -4);
        Node y = grown(0);
        y.work();
        DUE.is("the wrong order", Talk.give(y, 0, Code.body(2, 5, 4)), ODD);
        // The ROOT alone is looked at, and that of the one number 1 is 0, as is that of the empty body.
        Node z = grown(1);
        z.work();
        DUE.is("another body of the same ROOT", Talk.give(z, 0, Code.body(3, 1)), 4);
        DUE.is("it is the body", z.tx(2, 0), 1);
    }

    private static void bodiesOutOfOrder() {
        Node x = grown(0);
        Talk.ready(x, 1, 1, 99);
        Talk.ready(x, 2, 1, 99);
        DUE.is("three bodies are asked for", x.work(), 3);
        DUE.is("the third comes first", Talk.give(x, 2, Code.body(4, 6)), 4);
        DUE.is("not IMPORTED", x.block(3, 8), 0);
        DUE.is("HEAD", x.state(2), 0);
        DUE.is("the first", Talk.give(x, 0, Code.body(2, 4, 5)), 4);
        DUE.is("HEAD", x.state(2), 1);
        DUE.is("not IMPORTED", x.block(3, 8), 0);
        DUE.is("the second", Talk.give(x, 1, Code.body(3)), 4);
        DUE.is("IMPORTED", x.block(3, 8), 1);
        DUE.is("HEAD", x.state(2), 3);
    }

    private static void meritsAndFaults() {
        Node x = grown(3);
        DUE.is("never above 3", x.peer(0, Talk.SCORE), 3);
        x.work();
        int[] four = Code.child(THREE, 4, 10);
        Talk.give(x, 0, Code.headers(5, four));
        DUE.is("still 3", x.peer(0, Talk.SCORE), 3);
        Talk.give(x, 0, Code.hello(1, 1));
        DUE.is("1", x.peer(0, Talk.SCORE), 1);
        x.close(0);
        x.open(0);
        DUE.is("it stays", x.peer(0, Talk.SCORE), 1);
        Talk.give(x, 0, Code.askBody(1, 1));
        Talk.give(x, 0, Code.askBody(1, 1));
        DUE.is("-3 is not BANNED", x.peer(0, Talk.STATE), Talk.GREETING);
        DUE.is("-3", x.peer(0, Talk.SCORE), -3);
        DUE.is("one more", Talk.give(x, 0, Code.askBody(1, 1)), ODD);
        DUE.is("BANNED", x.peer(0, Talk.STATE), Talk.BANNED);
        DUE.is("-5", x.peer(0, Talk.SCORE), -5);
        DUE.is("BEST stays", x.peer(0, Talk.BEST), 0);
    }
}
