/** The edges of READING a message of a peer that is GREETING and of one that is READY. */
public final class EdgesOfReadingTest {
    private static final Due DUE = new Due();
    private static final int BIG = Integer.MAX_VALUE;
    private static final int ODD = ChainPeers.ODD;
    private static final int[] ONE = Code.child(Code.GENESIS, 1, 8, 4, 5);
    private static final int[] TWO = Code.child(ONE, 2, 9);
    private static final int[] THREE = Code.child(TWO, 3, 10, 6);

    public static void main(String[] args) {
        helloOfGreeting();
        othersOfGreeting();
        helloOfReady();
        askHeadersFrom();
        askHeadersCount();
        askBody();
        headersWithoutRequest();
        requestIsDone();
        emptyList();
        firstNumber();
        neitherHashNorParent();
        knownOnesAreNothing();
        notGoodOrNotLinked();
        noBodyByTheRootOfTheEmptyOne();
        backBecomesZero();
        bodyWithoutRequest();
        bodyOfAnotherRoot();
        bodyOfTheBlockAskedFor();
        DUE.end();
    }

    private static Node node(int best) {
        Node x = new Node(1, 9);
        Talk.ready(x, 0, 1, best);
        return x;
    }

    /** What peer 0 is answered when it is asked for headers and tells these. */
    private static int tell(Node x, int[]... headers) {
        x.work();
        return Talk.give(x, 0, Code.headers(x.peer(0, Talk.REQUEST), headers));
    }

    /** Holds state, SCORE, BEST, BACK, the request's id and how many messages are in the outbox of peer 0. */
    private static void peer(String name, Node x, int... due) {
        for (int which = 0; which < 6; which++) {
            DUE.is(name + ": peer(0, " + which + ")", x.peer(0, which), due[which]);
        }
    }

    private static void helloOfGreeting() {
        DUE.sentence("HELLO with our chain makes it READY with that best as its BEST");
        for (int best : new int[] {0, 1, 127, 128, BIG - 1, BIG}) {
            Node x = new Node(7, 9);
            x.open(0);
            DUE.is("HELLO", Talk.give(x, 0, Code.hello(7, best)), 0);
            peer("best " + best, x, Talk.READY, 0, best, 0, 0, 1);
        }
    }

    private static void othersOfGreeting() {
        DUE.sentence("BYE makes it CLOSED; all others are a FAULT of 2");
        int[][] others = {Code.askHeaders(1, 0, 2), Code.headers(0), Code.headers(1, ONE), Code.askBody(1, Code.GENESIS_HASH),
            Code.body(0), Code.body(1, 4, 5)};
        for (int[] other : others) {
            Node x = new Node(1, 9);
            x.open(0);
            DUE.is("kind " + other[1], Talk.give(x, 0, other), ODD);
            peer("kind " + other[1], x, Talk.GREETING, -2, 0, 0, 0, 1);
            DUE.is("blocks", x.state(0), 1);
        }
        Node x = new Node(1, 9);
        x.open(0);
        DUE.is("BYE", Talk.give(x, 0, Code.bye()), 5);
        peer("BYE", x, Talk.CLOSED, 0, 0, 0, 0, 0);
    }

    private static void helloOfReady() {
        DUE.sentence("Of a peer that is READY: HELLO is a FAULT of 2. BYE makes it CLOSED");
        for (int chain = 0; chain <= 2; chain++) {
            Node x = node(5);
            x.work();
            DUE.is("HELLO of chain " + chain, Talk.give(x, 0, Code.hello(chain, 9)), ODD);
            peer("HELLO of chain " + chain, x, Talk.READY, -2, 5, 0, 1, 1);
            DUE.is("BYE", Talk.give(x, 0, Code.bye()), 5);
            peer("BYE", x, Talk.CLOSED, -2, 5, 0, 0, 0);
        }
    }

    private static void asked(Node x, int from, int count, int[]... want) {
        String name = "ASK-HEADERS from " + from + ", " + count;
        DUE.is(name, Talk.give(x, 0, Code.askHeaders(9, from, count)), 1);
        DUE.bytes(name, Talk.sent(x, 0), Code.headers(9, want));
    }

    private static void askHeadersFrom() {
        DUE.sentence("those blocks of the CHAIN of HEAD whose NUMBERs are from, from + 1, .. (an empty list, if there are none)");
        Node x = node(0);
        asked(x, 0, 2, Code.GENESIS);
        asked(x, 1, 2);
        Talk.seal(x, 3);
        int[] one = Talk.header(x, 1);
        int[] two = Talk.header(x, 2);
        int[] three = Talk.header(x, 3);
        asked(x, 0, 2, Code.GENESIS, one);
        asked(x, 1, 2, one, two);
        asked(x, 2, 2, two, three);
        asked(x, 3, 2, three);
        asked(x, 4, 2);
        asked(x, 5, 2);
        // from + 1 wraps around behind the largest number.
        asked(x, BIG - 1, 2);
        asked(x, BIG, 2);
        asked(x, BIG, BIG);
        DUE.is("no FAULT and no MERIT", x.peer(0, Talk.SCORE), 0);
        Node full = node(0);
        Talk.seal(full, 19);
        asked(full, 18, 2, Talk.header(full, 18), Talk.header(full, 19));
        asked(full, 19, 2, Talk.header(full, 19));
        asked(full, 20, 2);
        // HEAVIEST is a header alone, one above HEAD.
        Node ahead = node(99);
        tell(ahead, ONE, TWO);
        ahead.work();
        Talk.give(ahead, 0, Code.body(2, 4, 5));
        Talk.drain(ahead, 0);
        asked(ahead, 0, 2, Code.GENESIS, ONE);
        asked(ahead, 1, 2, ONE);
        asked(ahead, 2, 2);
    }

    private static void askHeadersCount() {
        DUE.sentence("at most count and at most 2 of them");
        Node x = node(0);
        Talk.seal(x, 5);
        int[] one = Talk.header(x, 1);
        int[] two = Talk.header(x, 2);
        asked(x, 1, 0);
        asked(x, 1, 1, one);
        asked(x, 1, 2, one, two);
        asked(x, 1, 3, one, two);
        asked(x, 1, 4, one, two);
        asked(x, 1, BIG, one, two);
    }

    private static void askBody() {
        DUE.sentence("if there is a block of that hash and it has a body, BODY is sent (else nothing is, without a FAULT)");
        Node x = node(99);
        tell(x, ONE, TWO);
        x.work();
        Talk.give(x, 0, Code.body(2, 4, 5));
        Talk.drain(x, 0);
        int[] hashes = {Code.GENESIS_HASH, Code.hash(ONE), Code.hash(TWO), 0, BIG, Code.hash(ONE) + 1, Code.hash(ONE) - 1};
        int[][] due = {Code.body(9), Code.body(9, 4, 5), {}, {}, {}, {}, {}};
        for (int i = 0; i < hashes.length; i++) {
            DUE.is("ASK-BODY of hash " + i, Talk.give(x, 0, Code.askBody(9, hashes[i])), 3);
            DUE.is("hash " + i + ": outbox", x.peer(0, Talk.OUTBOX), due[i].length > 0 ? 1 : 0);
            DUE.bytes("hash " + i, Talk.sent(x, 0), due[i]);
        }
        DUE.is("no FAULT", x.peer(0, Talk.SCORE), 2);
        x.work();
        Talk.drain(x, 0);
        Talk.give(x, 0, Code.body(3));
        Talk.give(x, 0, Code.askBody(9, Code.hash(TWO)));
        DUE.bytes("an empty body that has come", Talk.sent(x, 0), Code.body(9));
    }

    private static void headersWithoutRequest() {
        DUE.sentence("HEADERS: if the peer has no request for headers with that id, it is a FAULT of 1");
        Node x = node(99);
        for (int id = 0; id <= 1; id++) {
            DUE.is("no request, id " + id, Talk.give(x, 0, Code.headers(id, ONE)), ODD);
        }
        peer("no request", x, Talk.READY, -2, 99, 0, 0, 0);
        Node y = node(99);
        y.work();
        for (int id : new int[] {0, 2, BIG}) {
            DUE.is("asked with 1, id " + id, Talk.give(y, 0, Code.headers(id, ONE)), ODD);
        }
        peer("the request stays", y, Talk.READY, -3, 99, 0, 1, 1);
        DUE.is("no block", y.state(0), 1);
        DUE.is("id 1", Talk.give(y, 0, Code.headers(1, ONE)), 2);
        DUE.is("a block", y.state(0), 2);
        Node z = node(99);
        tell(z, ONE);
        z.work();
        DUE.is("a body was asked for, with the id 2", Talk.give(z, 0, Code.headers(2, TWO)), ODD);
        DUE.is("an empty list all the same", Talk.give(z, 0, Code.headers(2)), ODD);
        peer("the request stays", z, Talk.READY, -1, 99, 0, 2, 2);
        Node other = node(99);
        Talk.ready(other, 1, 1, 99);
        other.work();
        DUE.is("another peer's id", Talk.give(other, 1, Code.headers(1, ONE)), ODD);
        DUE.is("its own", Talk.give(other, 1, Code.headers(2, ONE)), 2);
    }

    private static void requestIsDone() {
        DUE.sentence("Otherwise the request is done");
        int[][] answers = {Code.headers(1), Code.headers(1, TWO), Code.headers(1, new int[] {5, 1, 1, 8, 0}),
            Code.headers(1, Code.child(Code.GENESIS, 0, 8)), Code.headers(1, ONE)};
        int[] due = {2, ODD, 2, ODD, 2};
        for (int i = 0; i < answers.length; i++) {
            Node x = node(99);
            x.work();
            DUE.is("answer " + i, Talk.give(x, 0, answers[i]), due[i]);
            DUE.is("answer " + i + ": no request", x.peer(0, Talk.REQUEST), 0);
            int score = x.peer(0, Talk.SCORE);
            DUE.is("answer " + i + ": late no more", x.tick(50), 0);
            DUE.is("answer " + i + " again", x.receive(0), ODD);
            DUE.is("answer " + i + " again: a FAULT of 1", x.peer(0, Talk.SCORE), score - 1);
        }
    }

    private static void emptyList() {
        DUE.sentence("If the list is empty, BEST becomes from - 1 (from as in the request)");
        for (int blocks = 0; blocks <= 3; blocks++) {
            Node x = node(99);
            Talk.seal(x, blocks);
            x.work();
            // More blocks since then do not change what was asked for.
            x.seal(50, 8, 1);
            DUE.is("an empty list", Talk.give(x, 0, Code.headers(1)), 2);
            peer("from " + (blocks + 1), x, Talk.READY, 0, blocks, 0, 0, 1);
        }
        Node x = node(99);
        Talk.seal(x, 2);
        tell(x, new int[] {5, 3, 9, 8, 0});
        DUE.is("an empty list from 2 on", tell(x), 2);
        peer("BACK stays", x, Talk.READY, 0, 1, 1, 0, 2);
    }

    private static void firstNumber() {
        DUE.sentence("Else, if the first header's NUMBER is not from, it is a FAULT of 2");
        for (int number : new int[] {0, 1, 2, 3, 4, BIG}) {
            Node x = node(99);
            Talk.seal(x, 2);
            int[] header = {x.block(2, 5), number, 9, 8, 0};
            DUE.is("NUMBER " + number + ", from 3", tell(x, header), number == 3 ? 2 : ODD);
            peer("NUMBER " + number, x, Talk.READY, number == 3 ? 1 : -2, 99, 0, 0, 1);
            Node y = node(99);
            Talk.seal(y, 2);
            int[] stranger = {5, number, 9, 8, 0};
            DUE.is("a stranger's NUMBER " + number + ", from 3", tell(y, stranger), number == 3 ? 2 : ODD);
            peer("a stranger's NUMBER " + number, y, Talk.READY, number == 3 ? 0 : -2, 99, number == 3 ? 1 : 0, 0, 1);
        }
        // The first alone must have it, and a known header is no better.
        Node x = node(99);
        Talk.seal(x, 2);
        DUE.is("the known header of block 2, from 3", tell(x, Talk.header(x, 2)), ODD);
    }

    private static void neitherHashNorParent() {
        DUE.sentence("Else, if there is neither a block of the first header's HASH nor one of its PARENT, BACK grows by 1");
        int[] stranger = {5, 1, 1, 8, 0};
        for (int grown = 1; grown <= 3; grown++) {
            Node x = node(99);
            for (int i = 1; i < grown; i++) {
                tell(x, stranger);
            }
            // What stands behind the first is not looked at, be it GOOD or not.
            DUE.is("a stranger", tell(x, stranger, ONE), 2);
            DUE.is("no block", x.state(0), 1);
            DUE.is("BACK", x.peer(0, Talk.BACK), grown);
            DUE.is("neither FAULT nor MERIT", x.peer(0, Talk.SCORE), 0);
        }
        Node x = node(99);
        DUE.is("its PARENT is known", tell(x, ONE), 2);
        DUE.is("BACK", x.peer(0, Talk.BACK), 0);
        Node y = node(99);
        y.work();
        y.seal(1, 8, 1);
        DUE.is("its HASH is known, too", Talk.give(y, 0, Code.headers(1, Talk.header(y, 1))), 2);
        DUE.is("BACK", y.peer(0, Talk.BACK), 0);
        DUE.is("a MERIT", y.peer(0, Talk.SCORE), 1);
        Node z = node(99);
        DUE.is("its PARENT is known, but it is not GOOD", tell(z, Code.child(Code.GENESIS, 1, 4)), ODD);
        DUE.is("BACK", z.peer(0, Talk.BACK), 0);
    }

    private static void knownOnesAreNothing() {
        DUE.sentence("if there is a block of its HASH, nothing happens");
        Node x = node(99);
        Talk.ready(x, 1, 1, 99);
        Talk.ready(x, 2, 1, 99);
        Talk.ready(x, 3, 1, 99);
        x.work();
        int[] other = Code.child(Code.GENESIS, 9, 7);
        DUE.is("new ones", Talk.give(x, 0, Code.headers(1, ONE, TWO)), 2);
        DUE.is("known ones alone", Talk.give(x, 1, Code.headers(2, ONE, TWO)), 2);
        DUE.is("no block more", x.state(0), 3);
        DUE.is("a MERIT", x.peer(1, Talk.SCORE), 1);
        DUE.is("a known one that is not linked, then one linked to it", Talk.give(x, 2, Code.headers(3, other, TWO, THREE)), 2);
        DUE.is("blocks", x.state(0), 5);
        DUE.is("THREE", x.block(4, 5), Code.hash(THREE));
        DUE.is("a known one, then one linked to another", Talk.give(x, 3, Code.headers(4, ONE, Code.child(other, 10, 7))), ODD);
        DUE.is("no block more", x.state(0), 5);
        DUE.is("a FAULT of 2", x.peer(3, Talk.SCORE), -2);
    }

    private static void notGoodOrNotLinked() {
        DUE.sentence("it is a FAULT of 2 and the rest is passed over (what was taken stays, and so does BACK)");
        int[] bad = {Code.hash(TWO), 3, 2, 10, 0};
        int[][][] lists = {{bad(1)}, {ONE, bad(2)}, {ONE, TWO, bad}, {bad(1), ONE}, {ONE, bad(2), TWO}};
        int[] taken = {0, 1, 2, 0, 1};
        for (int i = 0; i < lists.length; i++) {
            Node x = node(99);
            tell(x, new int[] {5, 1, 1, 8, 0});
            DUE.is("list " + i, tell(x, lists[i]), ODD);
            DUE.is("list " + i + ": blocks", x.state(0), 1 + taken[i]);
            peer("list " + i, x, Talk.READY, -2, 99, 1, 0, 2);
        }
        // Each of these is GOOD by itself, but not behind the one before.
        int[] brother = Code.child(Code.GENESIS, 9, 9);
        Node x = node(99);
        DUE.is("brothers", tell(x, ONE, brother), ODD);
        DUE.is("the first stays", x.state(0), 2);
        DUE.is("a FAULT of 2", x.peer(0, Talk.SCORE), -2);
        Node y = node(99);
        DUE.is("in the wrong order", tell(y, ONE, THREE, TWO), ODD);
        DUE.is("the first stays", y.state(0), 2);
    }

    /** A header with that NUMBER, behind block 0 or ONE, whose TIME is not above its parent's. */
    private static int[] bad(int number) {
        return number == 1 ? Code.child(Code.GENESIS, 0, 8) : Code.child(ONE, 1, 8);
    }

    private static void noBodyByTheRootOfTheEmptyOne() {
        DUE.sentence("else it becomes a block without a body (also with the ROOT of the empty one)");
        Node x = node(99);
        tell(x, ONE, TWO);
        for (int k = 1; k <= 2; k++) {
            DUE.is("how many numbers", x.block(k, 7), -1);
            DUE.is("IMPORTED", x.block(k, 8), 0);
            DUE.is("tx", x.tx(k, 0), ChainPeers.NONE);
        }
        DUE.is("the ROOT of the empty one", x.block(2, 4), 0);
        DUE.is("HEAD", x.state(2), 0);
        DUE.is("HEAVIEST", x.state(1), 2);
    }

    private static void backBecomesZero() {
        DUE.sentence("If that was without a FAULT, BACK becomes 0, and it is a MERIT");
        for (int back = 1; back <= 3; back++) {
            Node x = node(99);
            for (int i = 0; i < back; i++) {
                tell(x, new int[] {5, 1, 1, 8, 0});
            }
            DUE.is("BACK", x.peer(0, Talk.BACK), back);
            DUE.is("what fits, three of them", tell(x, ONE, TWO, THREE), 2);
            DUE.is("BACK", x.peer(0, Talk.BACK), 0);
            DUE.is("one MERIT", x.peer(0, Talk.SCORE), 1);
        }
    }

    private static void bodyWithoutRequest() {
        DUE.sentence("BODY: if the peer has no request for a body with that id, it is a FAULT of 1");
        Node x = node(99);
        DUE.is("no request, id 0", Talk.give(x, 0, Code.body(0)), ODD);
        DUE.is("SCORE", x.peer(0, Talk.SCORE), -1);
        x.work();
        DUE.is("headers were asked for", Talk.give(x, 0, Code.body(1)), ODD);
        peer("the request stays", x, Talk.READY, -2, 99, 0, 1, 1);
        Talk.give(x, 0, Code.headers(1, ONE));
        x.work();
        for (int id : new int[] {1, 3}) {
            DUE.is("asked with 2, id " + id, Talk.give(x, 0, Code.body(id, 4, 5)), ODD);
        }
        peer("the request stays", x, Talk.READY, -3, 99, 0, 2, 2);
        DUE.is("no body", x.block(1, 7), -1);
        DUE.is("id 2", Talk.give(x, 0, Code.body(2, 4, 5)), 4);
        peer("done, a MERIT", x, Talk.READY, -2, 99, 0, 0, 2);
        DUE.is("the same again", x.receive(0), ODD);
        DUE.is("a FAULT of 1", x.peer(0, Talk.SCORE), -3);
    }

    private static void bodyOfAnotherRoot() {
        DUE.sentence("if the ROOT of these numbers is the ROOT of the header ..; if not, it is a FAULT of 2");
        int[][] wrong = {{}, {4}, {5, 4}, {4, 5, 0}, {4, 6}, {0, 4, 5}};
        for (int[] body : wrong) {
            Node x = node(99);
            tell(x, ONE);
            x.work();
            DUE.is("another body", Talk.give(x, 0, Code.body(2, body)), ODD);
            peer("another body: done", x, Talk.READY, -1, 99, 0, 0, 2);
            DUE.is("another body: none", x.block(1, 7), -1);
            DUE.is("another body: asked again", x.work(), 1);
            DUE.is("the body", Talk.give(x, 0, Code.body(3, 4, 5)), 4);
            DUE.is("it is there", x.block(1, 7), 2);
        }
    }

    private static void bodyOfTheBlockAskedFor() {
        DUE.sentence("this is the block's body from then on, and it is a MERIT");
        Node x = node(99);
        Talk.ready(x, 1, 1, 0);
        tell(x, ONE, TWO);
        DUE.is("two are asked", x.work(), 2);
        DUE.is("TWO's body for ONE", Talk.give(x, 0, Code.body(2)), ODD);
        DUE.is("no body of TWO", x.block(2, 7), -1);
        DUE.is("TWO's body", Talk.give(x, 1, Code.body(3)), 4);
        DUE.is("the body of TWO", x.block(2, 7), 0);
        DUE.is("no body of ONE", x.block(1, 7), -1);
        DUE.is("a MERIT", x.peer(1, Talk.SCORE), 1);
        DUE.is("no FAULT but the one", x.peer(0, Talk.SCORE), -1);
        // The wire changes after the body was taken; the body does not.
        x.work();
        DUE.is("ONE's body", Talk.give(x, 0, Code.body(4, 4, 5)), 4);
        Talk.lay(x, Code.body(5, 8, 8));
        DUE.is("tx(1, 0)", x.tx(1, 0), 4);
        DUE.is("tx(1, 1)", x.tx(1, 1), 5);
        DUE.is("tx(1, 2)", x.tx(1, 2), ChainPeers.NONE);
    }
}
