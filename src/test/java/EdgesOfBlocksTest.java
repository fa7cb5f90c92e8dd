/** The edges of 'Terms' as to MIX, HASH and ROOT, the 20 blocks, GOOD headers, TOTAL, HEAVIEST and HEAD. */
public final class EdgesOfBlocksTest {
    private static final Due DUE = new Due();
    private static final int BIG = Integer.MAX_VALUE;
    private static final int ODD = ChainPeers.ODD;

    public static void main(String[] args) {
        mixWrapsAround();
        rootBeginsWithHowMany();
        blockZero();
        atMostTwentyBySeal();
        atMostTwentyByHeaders();
        goodNeedsAParent();
        goodNumber();
        goodTime();
        goodWeightByHeaders();
        goodWeightBySeal();
        total();
        importedNeedsItsParent();
        leastOfHeaviest();
        leastOfHead();
        chainOfHead();
        DUE.end();
    }

    /** A node of chain 1 whose peer 0 is READY with a BEST of 99 and whose outbox is empty. */
    private static Node node() {
        Node x = new Node(1, 9);
        Talk.ready(x, 0, 1, 99);
        return x;
    }

    /** What peer 0 is answered when it is asked for headers and tells these. */
    private static int tell(Node x, int[]... headers) {
        x.work();
        return Talk.give(x, 0, Code.headers(x.peer(0, Talk.REQUEST), headers));
    }

    private static void mixWrapsAround() {
        DUE.sentence("MIX: t is (h ^ v) * 16777619, then t ^ (t >>> 15); the lowest 31 bits of that are it");
        // Worked out apart from any program: 2^31 - 1 and 65536 tell a product cut at 32 bits from one that is not,
        // 128 and 255 tell a shift that brings 0s, with the highest bit, from one that does not.
        int[] txs = {0, 1, 2, 128, 255, 65536, BIG - 1, BIG};
        int[] roots = {16778131, 0, 50332345, 16894226, 2113958873, 43189429, 2130641810, 2113865509};
        for (int i = 0; i < txs.length; i++) {
            Node x = new Node(1, 9);
            DUE.is("seal", x.seal(1, 8, txs[i]), 1);
            DUE.is("ROOT of the number " + txs[i], x.block(1, 4), roots[i]);
        }
        DUE.is("HASH of block 0", new Node(1, 9).block(0, 5), 2115217234);
    }

    private static void rootBeginsWithHowMany() {
        DUE.sentence("the ROOT of n numbers begins with n and is mixed with them in their order");
        int[][] bodies = {{}, {0}, {1, 0}, {0, 0}, {0, 0, 0, 0, 0, 0, 0, 0}, {1, 2, 3, 4, 5, 6, 7, 8},
            {BIG, BIG, BIG, BIG, BIG, BIG, BIG, BIG}};
        int[] roots = {0, 16778131, 1912909107, 1275844804, 284972169, 1462619153, 446668475};
        for (int i = 0; i < bodies.length; i++) {
            for (int off = -1; off <= 1; off++) {
                Node x = node();
                int root = Math.max(0, roots[i] + off);
                tell(x, new int[] {Code.GENESIS_HASH, 1, 1, 8, root});
                x.work();
                int want = root == roots[i] ? 4 : ODD;
                DUE.is("body " + i + " for the ROOT " + root, Talk.give(x, 0, Code.body(2, bodies[i])), want);
            }
        }
    }

    private static void blockZero() {
        DUE.sentence("Block 0 has the header (0, 0, 0, 8, 0) and the empty body");
        Node x = new Node(1, 9);
        int[] due = {0, 0, 0, 8, 0, 2115217234, 8, 0, 1};
        for (int which = 0; which < 9; which++) {
            DUE.is("block(0, " + which + ")", x.block(0, which), due[which]);
        }
        DUE.is("one block", x.state(0), 1);
        DUE.is("tx(0, 0)", x.tx(0, 0), ChainPeers.NONE);
    }

    private static void atMostTwentyBySeal() {
        DUE.sentence("BLOCKS are numbered 0, 1, .. as their headers become known, at most 20: seal");
        Node x = new Node(1, 9);
        for (int i = 1; i <= 22; i++) {
            DUE.is("seal of block " + i, x.seal(i, 8, i), i < 20 ? i : ChainPeers.NONE);
            DUE.is("blocks", x.state(0), Math.min(i + 1, 20));
        }
        DUE.is("the last one", x.block(19, 1), 19);
        DUE.is("none behind it", x.block(20, 1), ChainPeers.NONE);
        DUE.is("HEAD", x.state(2), 19);
        DUE.is("NUMBER of HEAD", x.block(x.state(2), 1), 19);
    }

    private static void atMostTwentyByHeaders() {
        DUE.sentence("else if there are 20 blocks, the rest is passed over, it too");
        for (int known = 17; known <= 20; known++) {
            Node x = node();
            x.work();
            Talk.seal(x, known - 1);
            int[] a = Code.child(Code.GENESIS, 50, 8);
            int[] b = Code.child(a, 51, 8);
            int[] notGood = Code.child(b, 51, 8);
            String name = known + " blocks, then headers";
            // When two have room the third is looked at, and it is not GOOD; else it is passed over.
            int want = known <= 18 ? ODD : 2;
            DUE.is(name, Talk.give(x, 0, Code.headers(1, a, b, notGood)), want);
            DUE.is(name + ": blocks", x.state(0), Math.min(20, known + 2));
            DUE.is(name + ": SCORE", x.peer(0, Talk.SCORE), want == 2 ? 1 : -2);
            DUE.is(name + ": the first", x.block(known, 5), known < 20 ? Code.hash(a) : ChainPeers.NONE);
            DUE.is(name + ": the second", x.block(known + 1, 5), known < 19 ? Code.hash(b) : ChainPeers.NONE);
        }
        Node x = node();
        x.work();
        Talk.seal(x, 19);
        int[] first = Talk.header(x, 1);
        int[] unlinked = Code.child(Code.GENESIS, 60, 8);
        DUE.is("20 blocks, a known one and then one that is not linked", Talk.give(x, 0, Code.headers(1, first, unlinked)), ODD);
        DUE.is("a FAULT of 2", x.peer(0, Talk.SCORE), -2);
    }

    private static void goodNeedsAParent() {
        DUE.sentence("A header is GOOD if there is a block of its PARENT");
        for (int off = -1; off <= 1; off++) {
            Node x = node();
            int[] header = {Code.GENESIS_HASH + off, 1, 1, 8, 0};
            DUE.is("the first", tell(x, header), 2);
            DUE.is("blocks", x.state(0), off == 0 ? 2 : 1);
            DUE.is("BACK", x.peer(0, Talk.BACK), off == 0 ? 0 : 1);
            DUE.is("SCORE", x.peer(0, Talk.SCORE), off == 0 ? 1 : 0);
            Node y = node();
            int[] one = Code.child(Code.GENESIS, 1, 8);
            DUE.is("the second", tell(y, one, new int[] {Code.hash(one) + off, 2, 2, 8, 0}), off == 0 ? 2 : ODD);
            DUE.is("blocks", y.state(0), off == 0 ? 3 : 2);
        }
        // Block 0 has the PARENT 0, but no block has the HASH 0.
        Node x = node();
        DUE.is("PARENT 0", tell(x, new int[] {0, 1, 1, 8, 0}), 2);
        DUE.is("BACK", x.peer(0, Talk.BACK), 1);
    }

    private static void goodNumber() {
        DUE.sentence("its NUMBER is 1 more than that one's");
        int[] one = Code.child(Code.GENESIS, 1, 8);
        for (int number : new int[] {0, 1, 2, 3, BIG}) {
            Node x = node();
            int[] second = {Code.hash(one), number, 2, 8, 0};
            DUE.is("NUMBER " + number + " behind 1", tell(x, one, second), number == 2 ? 2 : ODD);
            DUE.is("blocks", x.state(0), number == 2 ? 3 : 2);
        }
        // The NUMBER is the one that was asked for, 3, and only the parents differ.
        for (int parent = 0; parent <= 2; parent++) {
            Node x = node();
            Talk.seal(x, 2);
            int[] header = {x.block(parent, 5), 3, 9, 8, 0};
            DUE.is("NUMBER 3 behind " + parent, tell(x, header), parent == 2 ? 2 : ODD);
            DUE.is("blocks", x.state(0), parent == 2 ? 4 : 3);
        }
        // With BACK 1 it is 2 that is asked for, and block 2 is too high a parent.
        for (int parent = 0; parent <= 2; parent++) {
            Node x = node();
            Talk.seal(x, 2);
            tell(x, new int[] {5, 3, 9, 8, 0});
            int[] header = {x.block(parent, 5), 2, 9, 8, 0};
            DUE.is("NUMBER 2 behind " + parent, tell(x, header), parent == 1 ? 2 : ODD);
            DUE.is("BACK", x.peer(0, Talk.BACK), parent == 1 ? 0 : 1);
        }
    }

    private static void goodTime() {
        DUE.sentence("its TIME is above that one's");
        int[] times = {1, 2, 127, 128, 65536, BIG - 1, BIG};
        for (int before : times) {
            int[] one = Code.child(Code.GENESIS, before, 8);
            for (int time : new int[] {0, before - 1, before, before + 1, BIG}) {
                if (time < 0) {
                    continue;
                }
                Node x = node();
                boolean good = time > before;
                DUE.is("TIME " + time + " behind " + before, tell(x, one, Code.child(one, time, 8)), good ? 2 : ODD);
                DUE.is("blocks", x.state(0), good ? 3 : 2);
                Node y = new Node(1, 9);
                y.seal(before, 8, 1);
                DUE.is("seal at " + time + " behind " + before, y.seal(time, 8, 1), good ? 2 : ChainPeers.NONE);
            }
        }
        DUE.is("TIME 0 behind block 0", tell(node(), Code.child(Code.GENESIS, 0, 8)), ODD);
        DUE.is("TIME 1 behind block 0", tell(node(), Code.child(Code.GENESIS, 1, 8)), 2);
    }

    /** The weights at the edges of what may follow w, and at either side of them. */
    private static int[] weightsNear(int w) {
        int room = w / 4 + 1;
        return new int[] {0, 1, 2, w - room - 1, w - room, w - room + 1, w, w + room - 1, w + room, w + room + 1, 98, 99,
            100, 101};
    }

    private static boolean isGood(int weight, int w) {
        return weight > 0 && weight < 100 && 4 * (Math.abs(weight - w) - 1) <= w;
    }

    private static void goodWeightByHeaders() {
        DUE.sentence("its WEIGHT is 1 .. 99 and differs from that one's, w, by at most w / 4 (rounded down) + 1: headers");
        for (int w = 1; w <= 99; w++) {
            for (int weight : weightsNear(w)) {
                if (weight < 0) {
                    continue;
                }
                Node x = node();
                int head = Talk.sealUpTo(x, w);
                int[] header = Code.child(Talk.header(x, head), 99, weight);
                DUE.is("WEIGHT " + weight + " behind " + w, tell(x, header), isGood(weight, w) ? 2 : ODD);
                DUE.is("blocks", x.state(0), isGood(weight, w) ? head + 2 : head + 1);
            }
        }
        DUE.is("WEIGHT 2^31 - 1", tell(node(), Code.child(Code.GENESIS, 1, BIG)), ODD);
        DUE.is("WEIGHT 256 + 8", tell(node(), Code.child(Code.GENESIS, 1, 264)), ODD);
    }

    private static void goodWeightBySeal() {
        DUE.sentence("its WEIGHT is 1 .. 99 and differs from that one's, w, by at most w / 4 (rounded down) + 1: seal");
        for (int w = 1; w <= 99; w++) {
            for (int weight : weightsNear(w)) {
                Node x = new Node(1, 9);
                int head = Talk.sealUpTo(x, w);
                int want = isGood(weight, w) ? head + 1 : ChainPeers.NONE;
                DUE.is("WEIGHT " + weight + " behind " + w, x.seal(99, weight, 1), want);
            }
        }
        // Differences that wrap around must not look small.
        for (int weight : new int[] {BIG, Integer.MIN_VALUE, Integer.MIN_VALUE + 8, Integer.MIN_VALUE + 9, -8, -1}) {
            DUE.is("WEIGHT " + weight, new Node(1, 9).seal(1, weight, 1), ChainPeers.NONE);
        }
    }

    private static void total() {
        DUE.sentence("TOTAL is the WEIGHT of a block, and for all but block 0 the TOTAL of its parent more");
        Node x = node();
        int sum = 8;
        int head = Talk.sealUpTo(x, 99);
        for (int k = 1; k <= head; k++) {
            sum += x.block(k, 3);
            DUE.is("TOTAL of block " + k, x.block(k, 6), sum);
        }
        int[] fork = Code.child(Talk.header(x, head), 99, 74);
        tell(x, fork, Code.child(fork, 100, 56));
        DUE.is("TOTAL of a header alone", x.block(head + 1, 6), sum + 74);
        DUE.is("TOTAL behind it", x.block(head + 2, 6), sum + 74 + 56);
        DUE.is("seal", x.seal(99, 99, 5), head + 3);
        DUE.is("TOTAL of another branch", x.block(head + 3, 6), sum + 99);
    }

    private static void importedNeedsItsParent() {
        DUE.sentence("A block is IMPORTED if it is block 0, or has a body and its parent is IMPORTED");
        int[] one = Code.child(Code.GENESIS, 1, 8);
        int[] two = Code.child(one, 2, 8);
        int[] three = Code.child(two, 3, 8);
        Node x = node();
        Talk.ready(x, 1, 1, 0);
        Talk.ready(x, 2, 1, 0);
        tell(x, one, two, three);
        DUE.is("three are asked", x.work(), 3);
        int[][] due = {{1, 0, 0, 0}, {1, 0, 0, 0}, {1, 0, 0, 0}, {1, 1, 1, 1}};
        int[] peers = {2, 1, 0};
        for (int came = 0; came <= 3; came++) {
            if (came > 0) {
                int p = peers[came - 1];
                DUE.is("a body", Talk.give(x, p, Code.body(x.peer(p, Talk.REQUEST))), 4);
            }
            for (int k = 0; k < 4; k++) {
                DUE.is(came + " bodies came: block " + k, x.block(k, 8), due[came][k]);
            }
            DUE.is(came + " bodies came: HEAD", x.state(2), came == 3 ? 3 : 0);
        }
    }

    private static void leastOfHeaviest() {
        DUE.sentence("The HEAVIEST is the block with the greatest TOTAL (of several the least)");
        for (int weight = 7; weight <= 9; weight++) {
            Node x = node();
            Talk.ready(x, 1, 1, 99);
            x.work();
            Talk.give(x, 0, Code.headers(1, Code.child(Code.GENESIS, 1, 8)));
            DUE.is("HEAVIEST", x.state(1), 1);
            Talk.give(x, 1, Code.headers(2, Code.child(Code.GENESIS, 2, weight)));
            DUE.is("HEAVIEST of 8 and " + weight, x.state(1), weight > 8 ? 2 : 1);
            DUE.is("HEAD", x.state(2), 0);
        }
    }

    private static void leastOfHead() {
        DUE.sentence("HEAD the IMPORTED one with the greatest TOTAL (of several the least)");
        for (int weight = 7; weight <= 9; weight++) {
            Node x = node();
            tell(x, Code.child(Code.GENESIS, 1, 8));
            // Block 2 is our own, so it has its body first.
            x.seal(2, weight, -1);
            DUE.is("HEAD", x.state(2), 2);
            DUE.is("HEAVIEST of 8 and " + weight, x.state(1), weight > 8 ? 2 : 1);
            Node y = node();
            tell(y, Code.child(Code.GENESIS, 1, 8));
            y.work();
            y.seal(2, weight, -1);
            DUE.is("the body of block 1", Talk.give(y, 0, Code.body(2)), 4);
            DUE.is("HEAD of 8 and " + weight, y.state(2), weight > 8 ? 2 : 1);
        }
    }

    private static void chainOfHead() {
        DUE.sentence("The CHAIN of a block is it, its parent, and so on up to block 0");
        Node x = node();
        int[] ours = Code.child(Code.GENESIS, 2, 8);
        // Block 1 is a header alone and block 2 our own: both have the NUMBER 1, and only block 2 is in HEAD's CHAIN.
        tell(x, Code.child(Code.GENESIS, 1, 8));
        x.seal(2, 8, -1);
        x.seal(3, 8, -1);
        Talk.drain(x, 0);
        Talk.give(x, 0, Code.askHeaders(7, 0, 2));
        DUE.bytes("from 0", Talk.sent(x, 0), Code.headers(7, Code.GENESIS, ours));
        Talk.give(x, 0, Code.askHeaders(7, 1, 2));
        DUE.bytes("from 1", Talk.sent(x, 0), Code.headers(7, ours, Code.child(ours, 3, 8)));
    }
}
