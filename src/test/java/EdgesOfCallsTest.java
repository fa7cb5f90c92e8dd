/** The edges that the promises themselves name, one promise after the other. */
public final class EdgesOfCallsTest {
    private static final Due DUE = new Due();
    private static final int BIG = Integer.MAX_VALUE;
    private static final int LEAST = Integer.MIN_VALUE;
    private static final int NONE = ChainPeers.NONE;

    public static void main(String[] args) {
        chainBelowZero();
        waitBelowOneAndAboveThirty();
        openInEachState();
        openTellsTheNumberOfHead();
        closeInEachState();
        putOfOneToEight();
        putUpTo56();
        clear();
        wireBytes();
        receiveInEachState();
        sendMakesTheWire();
        workAsksTheReadyWithoutRequest();
        workBodyOfLeastNumber();
        workBodyNobodyIsAskedFor();
        workFromAtLeastOne();
        workBestAtLeastFrom();
        workFewerThanTwenty();
        workIdsAndDeadline();
        tickZeroToFifty();
        tickDeadlineBelowNotAt();
        tickAtEachTick();
        sealTxBelowZero();
        sealTimeMustBeANumber();
        sealOfAKnownHash();
        sealOfTwenty();
        peerOtherNumbers();
        blockOtherNumbers();
        txOtherNumbers();
        stateOtherNumbers();
        DUE.end();
    }

    private static Node node(int best) {
        Node x = new Node(1, 9);
        Talk.ready(x, 0, 1, best);
        return x;
    }

    private static void tell(Node x, int p, int[]... headers) {
        x.work();
        Talk.give(x, p, Code.headers(x.peer(p, Talk.REQUEST), headers));
    }

    /** Puts peer 0 into a state: CLOSED, GREETING, READY or BANNED. */
    private static Node inState(int state) {
        Node x = new Node(1, 9);
        if (state == Talk.CLOSED) {
            return x;
        }
        x.open(0);
        if (state == Talk.READY) {
            Talk.give(x, 0, Code.hello(1, 9));
        } else if (state == Talk.BANNED) {
            Talk.give(x, 0);
        }
        DUE.is("state", x.peer(0, Talk.STATE), state);
        return x;
    }

    private static void chainBelowZero() {
        DUE.sentence("1: Our chain is chain, but 0 if that is less");
        int[] given = {LEAST, -2, -1, 0, 1, 2, BIG - 1, BIG};
        int[] chains = {0, 0, 0, 0, 1, 2, BIG - 1, BIG};
        for (int i = 0; i < given.length; i++) {
            for (int heard : new int[] {0, 1, 2, BIG - 1, BIG}) {
                Node x = new Node(given[i], 1);
                x.open(0);
                DUE.bytes("HELLO of " + given[i], Talk.sent(x, 0), Code.hello(chains[i], 0));
                Talk.give(x, 0, Code.hello(heard, 0));
                int want = heard == chains[i] ? Talk.READY : Talk.CLOSED;
                DUE.is(given[i] + " hears " + heard, x.peer(0, Talk.STATE), want);
            }
        }
    }

    private static void waitBelowOneAndAboveThirty() {
        DUE.sentence("1: a request is waited for wait ticks, but 1 if that is less and 30 if that is more");
        int[] given = {LEAST, -1, 0, 1, 2, 3, 28, 29, 30, 31, 32, 1000, BIG};
        int[] waits = {1, 1, 1, 1, 2, 3, 28, 29, 30, 30, 30, 30, 30};
        for (int i = 0; i < given.length; i++) {
            Node x = new Node(1, given[i]);
            Talk.ready(x, 0, 1, 9);
            x.work();
            DUE.is("wait " + given[i] + ", not yet", x.tick(waits[i] - 1), 0);
            DUE.is("wait " + given[i] + ", at it", x.tick(1), 0);
            DUE.is("wait " + given[i] + ", behind it", x.tick(1), 1);
        }
    }

    private static void openInEachState() {
        DUE.sentence("2: false if it is not CLOSED or there is none such");
        for (int state = 0; state < 4; state++) {
            Node x = inState(state);
            DUE.is("open in state " + state, x.open(0), state == Talk.CLOSED);
            DUE.is("then", x.peer(0, Talk.STATE), state == Talk.CLOSED ? Talk.GREETING : state);
            DUE.is("its outbox", x.peer(0, Talk.OUTBOX), state == Talk.BANNED ? 0 : 1);
            DUE.is("its BEST", x.peer(0, Talk.BEST), state == Talk.READY ? 9 : 0);
        }
        DUE.sentence("2: becomes GREETING with BEST and BACK 0 (SCORE stays)");
        Node x = node(BIG);
        tell(x, 0, new int[] {5, 1, 1, 8, 0});
        tell(x, 0, new int[] {5, 2, 1, 8, 0});
        x.close(0);
        DUE.is("open", x.open(0), true);
        int[] due = {Talk.GREETING, -2, 0, 0, 0, 1};
        for (int which = 0; which < 6; which++) {
            DUE.is("peer(0, " + which + ")", x.peer(0, which), due[which]);
        }
    }

    private static void openTellsTheNumberOfHead() {
        DUE.sentence("2: HELLO with our chain and the NUMBER of HEAD is sent to it");
        Node x = new Node(1, 9);
        for (int number = 0; number < 20; number++) {
            x.open(0);
            DUE.is("how long", x.send(0), 4);
            DUE.is("NUMBER of HEAD", x.wire(3), number == 0 ? 128 : number);
            x.close(0);
            x.seal(number + 1, 8, -1);
        }
        // HEAVIEST is a header alone, one above HEAD.
        Node y = node(9);
        Talk.seal(y, 3);
        tell(y, 0, Code.child(Talk.header(y, 3), 9, 8));
        DUE.is("HEAVIEST", y.state(1), 4);
        y.open(1);
        DUE.bytes("HELLO", Talk.sent(y, 1), Code.hello(1, 3));
    }

    private static void closeInEachState() {
        DUE.sentence("3: false if it is not or there is none such");
        for (int state = 0; state < 4; state++) {
            Node x = inState(state);
            boolean talks = state == Talk.GREETING || state == Talk.READY;
            DUE.is("close in state " + state, x.close(0), talks);
            DUE.is("then", x.peer(0, Talk.STATE), talks ? Talk.CLOSED : state);
            DUE.is("again", x.close(0), false);
        }
    }

    private static void putOfOneToEight() {
        DUE.sentence("4: The n lowest bytes of bytes, the highest of them first; false if n is not 1 .. 8");
        long[] longs = {0x8182838485868788L, 0x0102030405060708L, -1L, 0L, Long.MIN_VALUE, Long.MAX_VALUE, 0xff00ff00ff00ff00L};
        for (long bytes : longs) {
            for (int n : new int[] {LEAST, -1, 0, 1, 2, 3, 4, 5, 6, 7, 8, 9, 16, 56, 256, BIG}) {
                Node x = new Node(1, 9);
                boolean fits = n >= 1 && n <= 8;
                DUE.is("put(" + n + ", " + bytes + ")", x.put(n, bytes), fits);
                int[] due = new int[fits ? n : 0];
                for (int k = 0; k < due.length; k++) {
                    due[due.length - 1 - k] = (int) (bytes >>> 8 * k & 255L);
                }
                DUE.bytes("the wire", Talk.onWire(x), due);
            }
        }
    }

    private static void putUpTo56() {
        DUE.sentence("4: false .. if there would be more than 56");
        for (int size = 47; size <= 56; size++) {
            for (int n = 1; n <= 8; n++) {
                Node x = new Node(1, 9);
                Talk.lay(x, new int[size]);
                DUE.is("put(" + n + ") at " + size, x.put(n, -1L), size + n <= 56);
                DUE.is("how many then", x.wire(-1), size + n <= 56 ? size + n : size);
                DUE.is("byte " + size, x.wire(size), size + n <= 56 ? 255 : NONE);
                DUE.is("byte " + (size - 1), x.wire(size - 1), 0);
            }
        }
    }

    private static void clear() {
        DUE.sentence("5: The wire becomes empty");
        for (int size : new int[] {0, 1, 55, 56}) {
            Node x = new Node(1, 9);
            Talk.lay(x, new int[size]);
            x.clear();
            DUE.is("how many", x.wire(-1), 0);
            DUE.is("the first", x.wire(0), NONE);
            x.clear();
            DUE.is("how many", x.wire(-1), 0);
            DUE.is("there is room again", x.put(8, 7), true);
            DUE.is("how many", x.wire(-1), 8);
        }
    }

    private static void wireBytes() {
        DUE.sentence("6: Byte k of the wire (from 0); how many there are, if k is -1; NONE if there is none such");
        for (int size : new int[] {0, 1, 2, 55, 56}) {
            Node x = new Node(1, 9);
            int[] bytes = new int[size];
            for (int k = 0; k < size; k++) {
                bytes[k] = 255 - k;
            }
            Talk.lay(x, bytes);
            DUE.is("wire(-1)", x.wire(-1), size);
            for (int k = 0; k <= 57; k++) {
                DUE.is("wire(" + k + ") of " + size, x.wire(k), k < size ? 255 - k : NONE);
            }
            for (int k : new int[] {LEAST, -56, -3, -2, 256, BIG}) {
                DUE.is("wire(" + k + ") of " + size, x.wire(k), NONE);
            }
        }
    }

    private static void receiveInEachState() {
        DUE.sentence("7: NONE if there is no peer p or it is CLOSED or BANNED");
        for (int state = 0; state < 4; state++) {
            boolean talks = state == Talk.GREETING || state == Talk.READY;
            DUE.is("BYE in state " + state, Talk.give(inState(state), 0, Code.bye()), talks ? 5 : NONE);
            DUE.is("no message in state " + state, Talk.give(inState(state), 0), talks ? ChainPeers.BROKEN : NONE);
        }
        DUE.sentence("7: What is on the wire comes from peer p (and stays there)");
        int[][] messages = {Code.hello(1, 5), Code.askHeaders(1, 0, 2), {192}, {}, Code.bye()};
        for (int[] message : messages) {
            for (int state = 0; state < 4; state++) {
                Node x = inState(state);
                Talk.give(x, 0, message);
                DUE.bytes("the wire in state " + state, Talk.onWire(x), message);
            }
        }
    }

    private static void sendMakesTheWire() {
        DUE.sentence("8: the wire becomes its code: how many bytes; NONE if there is none or no peer p");
        for (int size : new int[] {0, 3, 4, 5, 56}) {
            Node x = new Node(1, 9);
            x.open(2);
            Talk.lay(x, new int[size]);
            for (int p : new int[] {LEAST, -1, 0, 1, 3, 4, BIG}) {
                DUE.is("send(" + p + ")", x.send(p), NONE);
            }
            DUE.is("the wire stays", x.wire(-1), size);
            DUE.is("send(2)", x.send(2), 4);
            DUE.bytes("the wire", Talk.onWire(x), Code.hello(1, 0));
            DUE.is("send(2) again", x.send(2), NONE);
            DUE.bytes("the wire stays", Talk.onWire(x), Code.hello(1, 0));
        }
    }

    private static void workAsksTheReadyWithoutRequest() {
        DUE.sentence("9: For each peer that is READY and has no request, the least first .. Answers how many were asked");
        for (int ready = 0; ready <= 4; ready++) {
            Node x = new Node(1, 9);
            for (int p = 4 - ready; p < 4; p++) {
                Talk.ready(x, p, 1, 9);
            }
            DUE.is(ready + " are READY", x.work(), ready);
            for (int p = 0; p < 4; p++) {
                DUE.is("id of " + p, x.peer(p, Talk.REQUEST), Math.max(0, p - 3 + ready));
            }
            DUE.is("all have requests", x.work(), 0);
            DUE.is("the latest id", x.state(4), ready);
        }
        for (int state = 0; state < 4; state++) {
            DUE.is("one in state " + state, inState(state).work(), state == Talk.READY ? 1 : 0);
        }
    }

    private static void workBodyOfLeastNumber() {
        DUE.sentence("9: the peer is asked for the body of the one of least NUMBER among them");
        int[] one = Code.child(Code.GENESIS, 1, 8);
        int[] two = Code.child(one, 2, 8);
        int[] three = Code.child(two, 3, 8);
        Node x = node(3);
        tell(x, 0, one, two, three);
        x.send(0);
        int[][] headers = {one, two, three};
        for (int i = 0; i < 3; i++) {
            DUE.is("asked", x.work(), 1);
            DUE.bytes("for the body of " + (i + 1), Talk.sent(x, 0), Code.askBody(i + 2, Code.hash(headers[i])));
            Talk.give(x, 0, Code.body(i + 2));
        }
        DUE.is("no body is lacking, and BEST is 3", x.work(), 0);
        // HEAVIEST's own body is there, and only one below it is lacking.
        Node y = node(3);
        Talk.ready(y, 1, 1, 0);
        tell(y, 0, one, two);
        y.work();
        DUE.is("the body of HEAVIEST", Talk.give(y, 1, Code.body(3)), 4);
        y.close(0);
        Talk.drain(y, 1);
        DUE.is("asked", y.work(), 1);
        DUE.bytes("for the one below", Talk.sent(y, 1), Code.askBody(4, Code.hash(one)));
    }

    private static void workBodyNobodyIsAskedFor() {
        DUE.sentence("9: a block without a body in the CHAIN of HEAVIEST for which no peer has a request");
        int[] light = Code.child(Code.GENESIS, 1, 7);
        int[] heavy = Code.child(Code.GENESIS, 2, 8);
        Node x = node(1);
        Talk.ready(x, 1, 1, 1);
        x.work();
        Talk.give(x, 0, Code.headers(1, light));
        Talk.give(x, 1, Code.headers(2, heavy));
        DUE.is("only the heavy one's body is asked for", x.work(), 1);
        Talk.drain(x, 1);
        x.send(0);
        DUE.bytes("of peer 0", Talk.sent(x, 0), Code.askBody(3, Code.hash(heavy)));
        DUE.is("nobody else", x.work(), 0);
        Talk.give(x, 0, Code.body(3));
        DUE.is("the light one's body is never asked for", x.work(), 0);
        DUE.is("it has none", x.block(1, 7), -1);
        // A request for headers is none for a block, whatever number it is from.
        Node y = node(9);
        y.work();
        Talk.ready(y, 1, 1, 9);
        y.work();
        Talk.give(y, 1, Code.headers(2, heavy));
        DUE.is("peer 0 was asked for headers from 1 on", y.peer(0, Talk.REQUEST), 1);
        DUE.is("peer 1 is asked for the body of block 1", y.work(), 1);
        Talk.give(y, 1, Code.body(3));
        DUE.is("it came", y.block(1, 7), 0);
    }

    private static void workFromAtLeastOne() {
        DUE.sentence("9: with from = NUMBER of HEAVIEST + 1 - BACK, but 1 if that is less");
        for (int blocks = 0; blocks <= 3; blocks++) {
            Node x = node(99);
            Talk.seal(x, blocks);
            for (int back = 0; back <= blocks + 2; back++) {
                int from = Math.max(1, blocks + 1 - back);
                DUE.is("asked", x.work(), 1);
                DUE.bytes(blocks + " blocks, BACK " + back, Talk.sent(x, 0), Code.askHeaders(back + 1, from, 2));
                Talk.give(x, 0, Code.headers(back + 1, new int[] {5, from, 99, 8, 0}));
            }
        }
    }

    private static void workBestAtLeastFrom() {
        DUE.sentence("9: if fewer than 20 blocks are known and BEST is at least from, it is asked for 2 headers");
        for (int blocks = 0; blocks <= 4; blocks++) {
            for (int best : new int[] {0, 1, 2, 3, 4, 5, 6, BIG}) {
                Node x = node(best);
                Talk.seal(x, blocks);
                DUE.is("BEST " + best + ", from " + (blocks + 1), x.work(), best >= blocks + 1 ? 1 : 0);
                int[] due = best >= blocks + 1 ? Code.askHeaders(1, blocks + 1, 2) : new int[0];
                DUE.bytes("BEST " + best, Talk.sent(x, 0), due);
                DUE.is("the latest id", x.state(4), best >= blocks + 1 ? 1 : 0);
            }
        }
    }

    private static void workFewerThanTwenty() {
        DUE.sentence("9: if fewer than 20 blocks are known");
        for (int known = 18; known <= 20; known++) {
            Node x = node(99);
            Talk.seal(x, known - 1);
            DUE.is(known + " blocks", x.work(), known < 20 ? 1 : 0);
            DUE.is("the latest id", x.state(4), known < 20 ? 1 : 0);
        }
        // Of 20 blocks a body can be lacking still.
        Node x = node(99);
        Talk.seal(x, 18);
        tell(x, 0, Code.child(Talk.header(x, 18), 99, 8));
        DUE.is("20 blocks", x.state(0), 20);
        DUE.is("the last body", x.work(), 1);
        DUE.is("it comes", Talk.give(x, 0, Code.body(2)), 4);
        DUE.is("nothing more", x.work(), 0);
    }

    private static void workIdsAndDeadline() {
        DUE.sentence("9: it gets a request with the id 1, 2, .. (counted over all of them) and DEADLINE TIME + wait");
        for (int time : new int[] {0, 1, 7, 50}) {
            Node x = new Node(1, 3);
            x.tick(time);
            Talk.ready(x, 0, 1, 9);
            x.work();
            DUE.is("at the DEADLINE", x.tick(3), 0);
            DUE.is("behind it", x.tick(1), 1);
        }
        Node x = new Node(1, 9);
        for (int id = 1; id <= 8; id++) {
            int p = id % 4;
            Talk.ready(x, p, 1, 9);
            DUE.is("asked", x.work(), 1);
            DUE.is("id", x.peer(p, Talk.REQUEST), id);
            DUE.is("the latest", x.state(4), id);
            x.close(p);
            DUE.is("the latest stays", x.state(4), id);
        }
    }

    private static void tickZeroToFifty() {
        DUE.sentence("10: NONE if n is not 0 .. 50");
        for (int n : new int[] {LEAST, -50, -1, 0, 1, 2, 49, 50, 51, 52, 256, BIG}) {
            Node x = new Node(1, 9);
            boolean fits = n >= 0 && n <= 50;
            DUE.is("tick(" + n + ")", x.tick(n), fits ? 0 : NONE);
            DUE.is("TIME", x.state(3), fits ? n : 0);
        }
    }

    private static void tickDeadlineBelowNotAt() {
        DUE.sentence("10: whose request has a DEADLINE below (not at) TIME loses it, a FAULT of 1");
        for (int wait : new int[] {1, 2, 29, 30}) {
            for (int more = -1; more <= 2; more++) {
                Node x = new Node(1, wait);
                Talk.ready(x, 0, 1, 9);
                x.work();
                int lost = more > 0 ? 1 : 0;
                DUE.is("wait " + wait + ", tick(" + (wait + more) + ")", x.tick(wait + more), lost);
                DUE.is("its id", x.peer(0, Talk.REQUEST), 1 - lost);
                DUE.is("SCORE", x.peer(0, Talk.SCORE), -lost);
                DUE.is("TIME", x.state(3), wait + more);
                DUE.is("the message stays", x.peer(0, Talk.OUTBOX), 1);
                DUE.is("the answer", Talk.give(x, 0, Code.headers(1)), lost == 1 ? ChainPeers.ODD : 2);
            }
        }
    }

    private static void tickAtEachTick() {
        DUE.sentence("10: n ticks; at each, .. How many requests were lost");
        for (int step : new int[] {1, 2, 3, 10, 50}) {
            Node x = new Node(1, 9);
            int lost = 0;
            for (int p = 0; p < 4; p++) {
                Talk.ready(x, p, 1, 9);
                x.work();
                DUE.is("not yet", x.tick(2), 0);
            }
            // The DEADLINEs are 9, 11, 13 and 15, and TIME is 8.
            for (int time = 8; time < 50; time += step) {
                int before = Math.max(0, Math.min(4, (time - 8) / 2));
                int after = Math.max(0, Math.min(4, (time + step - 8) / 2));
                DUE.is("from " + time + ", tick(" + step + ")", x.tick(step), after - before);
                lost += after - before;
            }
            DUE.is("all are lost", lost, 4);
            for (int p = 0; p < 4; p++) {
                DUE.is("SCORE of " + p, x.peer(p, Talk.SCORE), -1);
            }
        }
    }

    private static void sealTxBelowZero() {
        DUE.sentence("11: a body of one number, tx, or the empty body (ROOT 0) if tx is below 0");
        int[] txs = {LEAST, -2, -1, 0, 1, 2, BIG};
        for (int tx : txs) {
            Node x = new Node(1, 9);
            DUE.is("seal with " + tx, x.seal(1, 8, tx), 1);
            DUE.is("how many numbers", x.block(1, 7), tx < 0 ? 0 : 1);
            DUE.is("the first", x.tx(1, 0), tx < 0 ? NONE : tx);
            DUE.is("no second", x.tx(1, 1), NONE);
            DUE.is("ROOT", x.block(1, 4), tx < 0 ? 0 : Code.root(tx));
            DUE.is("IMPORTED", x.block(1, 8), 1);
            // An empty body behind one with a number, and the other way round, leave nothing behind.
            DUE.is("another behind it", x.seal(2, 8, tx < 0 ? 7 : -1), 2);
            DUE.is("its number", x.tx(2, 0), tx < 0 ? 7 : NONE);
            DUE.is("the first stays", x.tx(1, 0), tx < 0 ? NONE : tx);
        }
    }

    private static void sealTimeMustBeANumber() {
        DUE.sentence("11: NONE if its header would not be GOOD (time must be a number)");
        for (int time : new int[] {LEAST, LEAST + 1, -2, -1, 0, 1, 2, BIG}) {
            DUE.is("seal at " + time, new Node(1, 9).seal(time, 8, 1), time >= 1 ? 1 : NONE);
        }
    }

    private static void sealOfAKnownHash() {
        DUE.sentence("11: NONE .. if there is a block of its HASH already");
        int[] known = Code.child(Code.GENESIS, 5, 8, 3);
        int[][] calls = {{5, 8, 3}, {4, 8, 3}, {6, 8, 3}, {5, 7, 3}, {5, 9, 3}, {5, 8, 2}, {5, 8, 4}, {5, 8, -1}};
        for (int[] call : calls) {
            Node x = node(9);
            tell(x, 0, known);
            boolean same = call == calls[0];
            DUE.is("seal(" + call[0] + ", " + call[1] + ", " + call[2] + ")", x.seal(call[0], call[1], call[2]), same ? NONE : 2);
            DUE.is("the known one has no body", x.block(1, 7), -1);
            DUE.is("blocks", x.state(0), same ? 2 : 3);
        }
        // The ROOT of the one number 1 is 0, as is that of the empty body.
        Node x = node(9);
        tell(x, 0, Code.child(Code.GENESIS, 5, 8));
        DUE.is("the empty body", x.seal(5, 8, -1), NONE);
        DUE.is("the number 1", x.seal(5, 8, 1), NONE);
        DUE.is("the number 2", x.seal(5, 8, 2), 2);
    }

    private static void sealOfTwenty() {
        DUE.sentence("11: NONE .. if there are 20 blocks");
        for (int known = 18; known <= 20; known++) {
            Node x = new Node(1, 9);
            Talk.seal(x, known - 1);
            DUE.is("seal with " + known, x.seal(99, 8, 1), known < 20 ? known : NONE);
            DUE.is("blocks", x.state(0), Math.min(20, known + 1));
        }
    }

    private static void peerOtherNumbers() {
        DUE.sentence("12: 0 if there is no peer p or which is another number");
        Node x = new Node(1, 9);
        for (int p = 0; p < 4; p++) {
            x.open(p);
            Talk.give(x, p, Code.hello(1, 50 + p));
            Talk.give(x, p, Code.headers(0));
            x.work();
            Talk.give(x, p, Code.headers(2 * p + 1, new int[] {5, 1, 1, 8, 0}));
            x.work();
        }
        for (int p = -1; p <= 4; p++) {
            int[] due = {0, Talk.READY, -1, 50 + p, 1, 2 * p + 2, 3, 0};
            for (int which = -1; which <= 6; which++) {
                DUE.is("peer(" + p + ", " + which + ")", x.peer(p, which), p < 0 || p > 3 ? 0 : due[which + 1]);
            }
        }
        for (int far : new int[] {LEAST, BIG}) {
            DUE.is("peer(" + far + ", 0)", x.peer(far, 0), 0);
            DUE.is("peer(0, " + far + ")", x.peer(0, far), 0);
        }
        DUE.sentence("12: the id of its request (0 if it has none)");
        x.tick(10);
        DUE.is("lost", x.peer(0, Talk.REQUEST), 0);
    }

    private static void blockOtherNumbers() {
        DUE.sentence("13: NONE if there is no block k or which is another number");
        for (int blocks : new int[] {1, 2, 20}) {
            Node x = new Node(1, 9);
            Talk.seal(x, blocks - 1);
            for (int which = -1; which <= 9; which++) {
                boolean there = which >= 0 && which <= 8;
                DUE.is("block(-1, " + which + ")", x.block(-1, which), NONE);
                DUE.is("block(0, " + which + ")", x.block(0, which) != NONE, there);
                DUE.is("the last block, " + which, x.block(blocks - 1, which) != NONE, there);
                DUE.is("behind the last block, " + which, x.block(blocks, which), NONE);
            }
            for (int far : new int[] {LEAST, BIG, 20, 21}) {
                DUE.is("block(" + far + ", 0)", x.block(far, 0), NONE);
                DUE.is("block(0, " + far + ")", x.block(0, far), NONE);
            }
        }
        DUE.sentence("13: how many numbers its body has, -1 if it has none, 8: 1 if it is IMPORTED, else 0");
        Node x = node(9);
        tell(x, 0, Code.child(Code.GENESIS, 1, 8));
        DUE.is("no body", x.block(1, 7), -1);
        DUE.is("not IMPORTED", x.block(1, 8), 0);
        x.work();
        Talk.give(x, 0, Code.body(2));
        DUE.is("an empty body", x.block(1, 7), 0);
        DUE.is("IMPORTED", x.block(1, 8), 1);
    }

    private static void txOtherNumbers() {
        DUE.sentence("14: Number i (from 0) in the body of block k; NONE if there is none");
        int[] body = {0, 1, 127, 128, 255, 256, BIG - 1, BIG};
        for (int n = 0; n <= 8; n++) {
            int[] first = java.util.Arrays.copyOf(body, n);
            Node x = node(9);
            tell(x, 0, Code.child(Code.GENESIS, 1, 8, first));
            DUE.is("no body yet", x.tx(1, 0), NONE);
            x.work();
            Talk.give(x, 0, Code.body(2, first));
            for (int i = -2; i <= 9; i++) {
                DUE.is("tx(1, " + i + ") of " + n, x.tx(1, i), i >= 0 && i < n ? body[i] : NONE);
                DUE.is("tx(0, " + i + ")", x.tx(0, i), NONE);
                DUE.is("tx(2, " + i + ")", x.tx(2, i), NONE);
                DUE.is("tx(-1, " + i + ")", x.tx(-1, i), NONE);
            }
            for (int far : new int[] {LEAST, BIG, 20}) {
                DUE.is("tx(" + far + ", 0)", x.tx(far, 0), NONE);
                DUE.is("tx(1, " + far + ")", x.tx(1, far), NONE);
            }
        }
    }

    private static void stateOtherNumbers() {
        DUE.sentence("15: NONE for another number");
        Node x = node(9);
        x.tick(3);
        tell(x, 0, Code.child(Code.GENESIS, 1, 8));
        int[] due = {NONE, NONE, 2, 1, 0, 3, 1, NONE, NONE};
        for (int which = -2; which <= 6; which++) {
            DUE.is("state(" + which + ")", x.state(which), due[which + 2]);
        }
        DUE.is("state(" + LEAST + ")", x.state(LEAST), NONE);
        DUE.is("state(" + BIG + ")", x.state(BIG), NONE);
        DUE.sentence("15: the id of the latest request (0 if there was none)");
        Node y = node(0);
        y.work();
        DUE.is("nothing was asked", y.state(4), 0);
    }
}
