/** The edges of 'Terms' as to peers: which there are, the outbox, becoming CLOSED or BANNED, FAULT and MERIT. */
public final class EdgesOfPeersTest {
    private static final Due DUE = new Due();
    private static final int ODD = ChainPeers.ODD;
    private static final int BROKEN = ChainPeers.BROKEN;

    public static void main(String[] args) {
        peersZeroToThree();
        outboxOfFour();
        lostAnswers();
        requestOfALostMessage();
        closedByUs();
        closedByBye();
        closedByAnotherChain();
        bannedByAMessage();
        bannedByATick();
        bannedForEver();
        faultOfOne();
        faultOfTwo();
        faultOfFour();
        lateFault();
        meritNotAboveThree();
        scoreStays();
        DUE.end();
    }

    private static void peersZeroToThree() {
        DUE.sentence("PEERS 0 .. 3, at first CLOSED");
        Node x = new Node(1, 9);
        for (int p : new int[] {Integer.MIN_VALUE, -2, -1, 0, 1, 2, 3, 4, 5, Integer.MAX_VALUE}) {
            boolean isPeer = p >= 0 && p <= 3;
            DUE.is("state of " + p, x.peer(p, Talk.STATE), Talk.CLOSED);
            DUE.is("close(" + p + ")", x.close(p), false);
            DUE.is("receive(" + p + ")", Talk.give(x, p, Code.hello(1, 5)), ChainPeers.NONE);
            DUE.is("send(" + p + ")", x.send(p), ChainPeers.NONE);
            DUE.is("open(" + p + ")", x.open(p), isPeer);
            DUE.is("state of " + p, x.peer(p, Talk.STATE), isPeer ? Talk.GREETING : 0);
            DUE.is("receive(" + p + ")", x.receive(p), isPeer ? 0 : ChainPeers.NONE);
            DUE.is("send(" + p + ")", x.send(p), isPeer ? 4 : ChainPeers.NONE);
            DUE.is("BEST of " + p, x.peer(p, Talk.BEST), isPeer ? 5 : 0);
            DUE.is("close(" + p + ")", x.close(p), isPeer);
        }
    }

    private static void outboxOfFour() {
        DUE.sentence("an OUTBOX of at most 4 messages: what is sent to it becomes the last there, or is lost if there are 4");
        for (int n = 3; n <= 5; n++) {
            Node x = Talk.withScore(0);
            for (int id = 1; id <= n; id++) {
                DUE.is("ASK-HEADERS", Talk.give(x, 0, Code.askHeaders(id, 0, 0)), 1);
            }
            DUE.is(n + " were sent", x.peer(0, Talk.OUTBOX), Math.min(n, 4));
            for (int id = 1; id <= Math.min(n, 4); id++) {
                DUE.bytes("message " + id + " of " + n, Talk.sent(x, 0), Code.headers(id));
            }
            DUE.is("no more", x.send(0), ChainPeers.NONE);
        }
        // One leaves, one comes: the order stays, whatever place each has.
        Node x = Talk.withScore(0);
        for (int id = 1; id <= 12; id++) {
            Talk.give(x, 0, Code.askHeaders(id, 0, 0));
            DUE.is("in the outbox", x.peer(0, Talk.OUTBOX), Math.min(id, 4));
            if (id >= 4) {
                DUE.bytes("the first", Talk.sent(x, 0), Code.headers(id - 3));
                DUE.is("in the outbox", x.peer(0, Talk.OUTBOX), 3);
            }
        }
    }

    /** Peer 0 of a node that has n messages in its outbox, the first HELLO, and is READY with a BEST of 99. */
    private static Node withOutbox(int n) {
        Node x = new Node(1, 9);
        x.open(0);
        Talk.give(x, 0, Code.hello(1, 99));
        for (int i = 1; i < n; i++) {
            Talk.give(x, 0, Code.askHeaders(100 + i, 99, 0));
        }
        return x;
    }

    private static void lostAnswers() {
        DUE.sentence("or is lost if there are 4: HEADERS and BODY");
        for (int n = 3; n <= 4; n++) {
            int[][] asked = {Code.askHeaders(7, 0, 1), Code.askBody(7, Code.GENESIS_HASH)};
            int[][] answers = {Code.headers(7, Code.GENESIS), Code.body(7)};
            for (int i = 0; i < 2; i++) {
                Node x = withOutbox(n);
                DUE.is("asked with " + n, Talk.give(x, 0, asked[i]), asked[i][1]);
                DUE.is("no FAULT", x.peer(0, Talk.SCORE), 0);
                DUE.is("in the outbox", x.peer(0, Talk.OUTBOX), 4);
                for (int k = 0; k < 3; k++) {
                    x.send(0);
                }
                DUE.bytes("the last", Talk.sent(x, 0), n == 3 ? answers[i] : Code.headers(103));
                DUE.is("no more", x.send(0), ChainPeers.NONE);
            }
        }
    }

    private static void requestOfALostMessage() {
        DUE.sentence("a request whose message is lost is there all the same");
        int[] one = Code.child(Code.GENESIS, 1, 8);
        for (int n = 3; n <= 4; n++) {
            Node x = withOutbox(n);
            DUE.is("asked for headers with " + n, x.work(), 1);
            DUE.is("the request", x.peer(0, Talk.REQUEST), 1);
            DUE.is("the latest id", x.state(4), 1);
            DUE.is("in the outbox", x.peer(0, Talk.OUTBOX), 4);
            DUE.is("not asked again", x.work(), 0);
            DUE.is("the answer", Talk.give(x, 0, Code.headers(1, one)), 2);
            DUE.is("asked for a body", x.work(), 1);
            DUE.is("the request", x.peer(0, Talk.REQUEST), 2);
            DUE.is("in the outbox", x.peer(0, Talk.OUTBOX), 4);
            for (int k = 0; k < 3; k++) {
                x.send(0);
            }
            DUE.bytes("the last", Talk.sent(x, 0), n == 3 ? Code.askHeaders(1, 1, 2) : Code.headers(103));
            DUE.is("the body", Talk.give(x, 0, Code.body(2)), 4);
            DUE.is("HEAD", x.state(2), 1);
            Node y = withOutbox(n);
            y.work();
            DUE.is("its DEADLINE", y.tick(9), 0);
            DUE.is("behind it", y.tick(1), 1);
            DUE.is("a FAULT of 1", y.peer(0, Talk.SCORE), -1);
        }
    }

    /** A node whose peer 0 is asked for the body of block 1 and has that and one more message in its outbox. */
    private static Node busy() {
        Node x = new Node(1, 9);
        Talk.ready(x, 0, 1, 99);
        x.work();
        Talk.give(x, 0, Code.headers(1, Code.child(Code.GENESIS, 1, 8)));
        x.work();
        DUE.is("a request", x.peer(0, Talk.REQUEST), 2);
        DUE.is("two in the outbox", x.peer(0, Talk.OUTBOX), 2);
        return x;
    }

    /** Holds that peer 0 has become state, and has no request and an empty outbox from then on. */
    private static void left(Node x, int state) {
        DUE.is("state", x.peer(0, Talk.STATE), state);
        DUE.is("no request", x.peer(0, Talk.REQUEST), 0);
        DUE.is("an empty outbox", x.peer(0, Talk.OUTBOX), 0);
        DUE.is("nothing to send", x.send(0), ChainPeers.NONE);
        DUE.is("nothing to hear", Talk.give(x, 0, Code.body(2)), ChainPeers.NONE);
        int score = x.peer(0, Talk.SCORE);
        DUE.is("no request can be late", x.tick(50), 0);
        DUE.is("SCORE", x.peer(0, Talk.SCORE), score);
        DUE.is("it is not asked", x.work(), 0);
        DUE.is("open", x.open(0), state == Talk.CLOSED);
        DUE.is("only HELLO in its outbox", x.peer(0, Talk.OUTBOX), state == Talk.CLOSED ? 1 : 0);
        // What it was asked for can be asked of another.
        Talk.ready(x, 1, 1, 0);
        DUE.is("another is asked", x.work(), x.state(0) > 1 ? 1 : 0);
    }

    private static void closedByUs() {
        DUE.sentence("A peer that becomes CLOSED or BANNED has no request and an empty outbox from then on: close");
        Node x = new Node(1, 9);
        x.open(0);
        DUE.is("close a GREETING one", x.close(0), true);
        left(x, Talk.CLOSED);
        Node y = busy();
        DUE.is("close a READY one", y.close(0), true);
        left(y, Talk.CLOSED);
    }

    private static void closedByBye() {
        DUE.sentence("A peer that becomes CLOSED or BANNED has no request and an empty outbox from then on: BYE");
        Node x = new Node(1, 9);
        x.open(0);
        DUE.is("BYE of a GREETING one", Talk.give(x, 0, Code.bye()), 5);
        left(x, Talk.CLOSED);
        Node y = busy();
        DUE.is("BYE of a READY one", Talk.give(y, 0, Code.bye()), 5);
        left(y, Talk.CLOSED);
    }

    private static void closedByAnotherChain() {
        DUE.sentence("HELLO .. with another chain it makes it CLOSED (no FAULT)");
        for (int chain : new int[] {0, 1, 2, 3, Integer.MAX_VALUE}) {
            Node x = new Node(2, 9);
            x.open(0);
            DUE.is("HELLO of chain " + chain, Talk.give(x, 0, Code.hello(chain, 9)), 0);
            DUE.is("SCORE", x.peer(0, Talk.SCORE), 0);
            DUE.is("BEST", x.peer(0, Talk.BEST), chain == 2 ? 9 : 0);
            if (chain == 2) {
                DUE.is("ours", x.peer(0, Talk.STATE), Talk.READY);
                DUE.is("our HELLO waits", x.peer(0, Talk.OUTBOX), 1);
            } else {
                left(x, Talk.CLOSED);
            }
        }
    }

    private static void bannedByAMessage() {
        DUE.sentence("the peer is BANNED (for ever; the call answers ODD or BROKEN all the same)");
        int[][] faults = {{}, Code.headers(9), Code.body(9), Code.hello(1, 1), Code.body(2, 77)};
        int[] answers = {BROKEN, ODD, ODD, ODD, ODD};
        for (int i = 0; i < faults.length; i++) {
            Node x = busy();
            // From a SCORE of 1 down to -3, from where every FAULT bans.
            for (int k = 0; k < 4; k++) {
                DUE.is("a FAULT", Talk.give(x, 0, Code.headers(0)), ODD);
            }
            DUE.is("SCORE", x.peer(0, Talk.SCORE), -3);
            DUE.is("READY still", x.peer(0, Talk.STATE), Talk.READY);
            DUE.is("its request still", x.peer(0, Talk.REQUEST), 2);
            DUE.is("the last FAULT", Talk.give(x, 0, faults[i]), answers[i]);
            left(x, Talk.BANNED);
        }
        Node x = new Node(1, 9);
        x.open(0);
        DUE.is("a GREETING one", Talk.give(x, 0, Code.askBody(1, 1)), ODD);
        DUE.is("a GREETING one again", Talk.give(x, 0, Code.askBody(1, 1)), ODD);
        left(x, Talk.BANNED);
        Node y = new Node(1, 9);
        y.open(0);
        DUE.is("BROKEN of a GREETING one", Talk.give(y, 0, 192), BROKEN);
        left(y, Talk.BANNED);
        Node z = Talk.withScore(-3);
        z.work();
        DUE.is("HEADERS that are not GOOD", Talk.give(z, 0, Code.headers(1, Code.child(Code.GENESIS, 0, 8))), ODD);
        left(z, Talk.BANNED);
    }

    private static void bannedByATick() {
        DUE.sentence("A peer that becomes CLOSED or BANNED has no request and an empty outbox from then on: tick");
        Node x = busy();
        for (int k = 0; k < 4; k++) {
            Talk.give(x, 0, Code.headers(0));
        }
        DUE.is("at the DEADLINE", x.tick(9), 0);
        DUE.is("READY still", x.peer(0, Talk.STATE), Talk.READY);
        DUE.is("late", x.tick(1), 1);
        DUE.is("SCORE", x.peer(0, Talk.SCORE), -4);
        left(x, Talk.BANNED);
    }

    private static void bannedForEver() {
        DUE.sentence("the peer is BANNED (for ever)");
        Node x = new Node(1, 9);
        x.open(0);
        x.receive(0);
        for (int i = 0; i < 3; i++) {
            DUE.is("open", x.open(0), false);
            DUE.is("close", x.close(0), false);
            DUE.is("send", x.send(0), ChainPeers.NONE);
            DUE.is("work", x.work(), 0);
            DUE.is("tick", x.tick(50), 0);
            DUE.is("HELLO", Talk.give(x, 0, Code.hello(1, 9)), ChainPeers.NONE);
            DUE.is("BYE", Talk.give(x, 0, Code.bye()), ChainPeers.NONE);
            DUE.is("BROKEN", Talk.give(x, 0), ChainPeers.NONE);
            int[] due = {Talk.BANNED, -4, 0, 0, 0, 0};
            for (int which = 0; which < 6; which++) {
                DUE.is("peer(0, " + which + ")", x.peer(0, which), due[which]);
            }
        }
        DUE.is("another peer", x.open(1), true);
    }

    /** Holds what a message, a FAULT of c, does to peer 0 with each SCORE there can be. */
    private static void fault(int c, int answer, int... message) {
        for (int score = -3; score <= 3; score++) {
            Node x = Talk.withScore(score);
            DUE.is("SCORE", x.peer(0, Talk.SCORE), score);
            DUE.is("a FAULT of " + c + " at " + score, Talk.give(x, 0, message), answer);
            DUE.is("SCORE", x.peer(0, Talk.SCORE), score - c);
            DUE.is("a FAULT of " + c + " at " + score + ": state", x.peer(0, Talk.STATE),
                score - c < -3 ? Talk.BANNED : Talk.READY);
        }
    }

    private static void faultOfOne() {
        DUE.sentence("A FAULT of c: SCORE falls by c; if it is below -3 then, the peer is BANNED: 1");
        fault(1, ODD, Code.headers(0));
        fault(1, ODD, Code.body(0));
        fault(1, ODD, Code.headers(99, Code.child(Code.GENESIS, 1, 8)));
        fault(1, ODD, Code.body(99, 1, 2));
    }

    private static void faultOfTwo() {
        DUE.sentence("A FAULT of c: SCORE falls by c; if it is below -3 then, the peer is BANNED: 2");
        fault(2, ODD, Code.hello(1, 99));
        fault(2, ODD, Code.hello(2, 99));
    }

    private static void faultOfFour() {
        DUE.sentence("A FAULT of c: SCORE falls by c; if it is below -3 then, the peer is BANNED: 4");
        fault(4, BROKEN);
        fault(4, BROKEN, 193, 6);
    }

    private static void lateFault() {
        DUE.sentence("A FAULT of c: SCORE falls by c; if it is below -3 then, the peer is BANNED: tick");
        for (int score = -3; score <= 3; score++) {
            Node x = Talk.withScore(score);
            x.work();
            DUE.is("late at " + score, x.tick(10), 1);
            DUE.is("SCORE", x.peer(0, Talk.SCORE), score - 1);
            DUE.is("state at " + score, x.peer(0, Talk.STATE), score == -3 ? Talk.BANNED : Talk.READY);
        }
    }

    private static void meritNotAboveThree() {
        DUE.sentence("A MERIT: SCORE grows by 1, but not above 3");
        Node x = Talk.withScore(-3);
        // By turns headers and a body.
        for (int score = -2; score <= 6; score++) {
            Talk.earn(x, 0);
            DUE.is("after a MERIT", x.peer(0, Talk.SCORE), Math.min(score, 3));
        }
        Talk.give(x, 0, Code.headers(0));
        DUE.is("a FAULT counts from 3", x.peer(0, Talk.SCORE), 2);
        Talk.earn(x, 0);
        DUE.is("3 again", x.peer(0, Talk.SCORE), 3);
        Talk.earn(x, 0);
        DUE.is("3 still", x.peer(0, Talk.SCORE), 3);
    }

    private static void scoreStays() {
        DUE.sentence("SCORE (which stays when a peer is CLOSED and opened again)");
        for (int score = -3; score <= 3; score++) {
            Node x = Talk.withScore(score);
            x.close(0);
            DUE.is("closed", x.peer(0, Talk.SCORE), score);
            x.open(0);
            DUE.is("opened", x.peer(0, Talk.SCORE), score);
            Talk.give(x, 0, Code.hello(2, 1));
            DUE.is("closed by another chain", x.peer(0, Talk.SCORE), score);
            x.open(0);
            Talk.give(x, 0, Code.hello(1, 1));
            DUE.is("READY", x.peer(0, Talk.SCORE), score);
            Talk.give(x, 0, Code.bye());
            DUE.is("closed by BYE", x.peer(0, Talk.SCORE), score);
            x.open(0);
            DUE.is("opened", x.peer(0, Talk.SCORE), score);
            DUE.is("a FAULT of 2", Talk.give(x, 0, Code.body(0)), ODD);
            DUE.is("SCORE", x.peer(0, Talk.SCORE), score - 2);
            DUE.is("state", x.peer(0, Talk.STATE), score - 2 < -3 ? Talk.BANNED : Talk.GREETING);
        }
    }
}
