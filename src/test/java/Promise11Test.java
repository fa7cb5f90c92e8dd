/** Promise 11: seal. */
public final class Promise11Test {
    private static final Due DUE = new Due();

    public static void main(String[] args) {
        ordinary();
        notGood();
        knownAlready();
        behindHead();
        full();
        ticksDoNotMatter();
        DUE.end();
    }

    private static void ordinary() {
        Node x = new Node(1, 1);
        DUE.is("seal", x.seal(4, 9, 6), 1);
        int[] one = Code.child(Code.GENESIS, 4, 9, 6);
        for (int i = 0; i < 5; i++) {
            DUE.is("block(1, " + i + ")", x.block(1, i), one[i]);
        }
        DUE.is("TOTAL", x.block(1, 6), 17);
        DUE.is("IMPORTED", x.block(1, 8), 1);
        DUE.is("tx", x.tx(1, 0), 6);
        DUE.is("the empty body", x.seal(5, 9, -1), 2);
        DUE.is("ROOT", x.block(2, 4), 0);
        DUE.is("no number", x.block(2, 7), 0);
        DUE.is("no number", x.tx(2, 0), ChainPeers.NONE);
        DUE.is("below 0", x.seal(6, 9, Integer.MIN_VALUE), 3);
        DUE.is("no number", x.block(3, 7), 0);
        DUE.is("the number 0", x.seal(7, 9, 0), 4);
        DUE.is("one number", x.block(4, 7), 1);
        DUE.is("it is 0", x.tx(4, 0), 0);
        DUE.is("its ROOT", x.block(4, 4), Code.root(0));
        DUE.is("the largest", x.seal(Integer.MAX_VALUE, 9, Integer.MAX_VALUE), 5);
        DUE.is("it is there", x.tx(5, 0), Integer.MAX_VALUE);
        DUE.is("HEAD", x.state(2), 5);
        DUE.is("no later TIME", x.seal(Integer.MAX_VALUE, 9, 1), ChainPeers.NONE);
    }

    private static void notGood() {
        Node x = new Node(1, 1);
        String before = Talk.view(x);
        for (int time : new int[] {0, -1, Integer.MIN_VALUE}) {
            DUE.is("TIME " + time, x.seal(time, 8, 1), ChainPeers.NONE);
        }
        for (int weight : new int[] {4, 12, 0, -1, -8, 100, Integer.MIN_VALUE, Integer.MAX_VALUE}) {
            DUE.is("WEIGHT " + weight, x.seal(1, weight, 1), ChainPeers.NONE);
        }
        DUE.is("nothing changed", before.equals(Talk.view(x)), true);
        for (int weight : new int[] {5, 11}) {
            DUE.is("WEIGHT " + weight, new Node(1, 1).seal(1, weight, 1), 1);
        }
        Node light = new Node(1, 1);
        int[] down = {5, 3, 2, 1, 1};
        for (int i = 0; i < down.length; i++) {
            DUE.is("down to " + down[i], light.seal(i + 1, down[i], 1), i + 1);
        }
        DUE.is("WEIGHT 0 behind 1", light.seal(9, 0, 1), ChainPeers.NONE);
        DUE.is("WEIGHT 3 behind 1", light.seal(9, 3, 1), ChainPeers.NONE);
        DUE.is("WEIGHT 2 behind 1", light.seal(9, 2, 1), 6);
    }

    private static void knownAlready() {
        Node x = new Node(1, 1);
        Talk.ready(x, 0, 1, 9);
        x.work();
        Talk.give(x, 0, Code.headers(1, Code.child(Code.GENESIS, 4, 9, 6)));
        DUE.is("HEAD", x.state(2), 0);
        DUE.is("the same header", x.seal(4, 9, 6), ChainPeers.NONE);
        DUE.is("it has no body still", x.block(1, 7), -1);
        DUE.is("another", x.seal(4, 9, 7), 2);
    }

    private static void behindHead() {
        Node x = new Node(1, 1);
        Talk.ready(x, 0, 1, 9);
        x.work();
        int[] one = Code.child(Code.GENESIS, 4, 11, 6);
        Talk.give(x, 0, Code.headers(1, one));
        DUE.is("seal", x.seal(1, 8, 1), 2);
        DUE.is("behind HEAD, not HEAVIEST", x.block(2, 0), Code.GENESIS_HASH);
        DUE.is("HEAVIEST", x.state(1), 1);
        DUE.is("HEAD", x.state(2), 2);
        x.work();
        Talk.give(x, 0, Code.body(2, 6));
        DUE.is("HEAD", x.state(2), 1);
        DUE.is("seal", x.seal(9, 11, 1), 3);
        DUE.is("behind the new HEAD", x.block(3, 0), Code.hash(one));
        DUE.is("TOTAL", x.block(3, 6), 30);
    }

    /** A block's TIME is what its maker says. */
    private static void ticksDoNotMatter() {
        Node x = new Node(1, 1);
        x.tick(50);
        DUE.is("a TIME below the ticks", x.seal(1, 8, 1), 1);
        DUE.is("it is as said", x.block(1, 2), 1);
        DUE.is("a TIME above the ticks", x.seal(1000, 8, 1), 2);
        DUE.is("it is as said", x.block(2, 2), 1000);
        DUE.is("the ticks stay", x.state(3), 50);
    }

    private static void full() {
        Node x = new Node(1, 1);
        for (int i = 1; i < 20; i++) {
            DUE.is("seal " + i, x.seal(i, 8, i), i);
        }
        String before = Talk.view(x);
        DUE.is("20 blocks", x.seal(20, 8, 1), ChainPeers.NONE);
        DUE.is("nothing changed", before.equals(Talk.view(x)), true);
    }
}
