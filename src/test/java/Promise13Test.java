/** Promise 13: block. */
public final class Promise13Test {
    private static final Due DUE = new Due();

    public static void main(String[] args) {
        Node x = new Node(1, 5);
        // The hash of block 0 worked out by hand from MIX, so that Code is held against the document, too.
        int h = 7;
        for (int v : new int[] {0, 0, 0, 8, 0}) {
            int t = (h ^ v) * 16777619;
            h = (t ^ t >>> 15) & 0x7fffffff;
        }
        is(x, 0, 0, 0, 0, 8, 0, h, 8, 0, 1);
        Talk.ready(x, 0, 1, 9);
        x.work();
        int[] one = Code.child(Code.GENESIS, 70000, 9, 1, 2, 3);
        int[] two = Code.child(one, 70001, 10);
        Talk.give(x, 0, Code.headers(1, one, two));
        is(x, 1, one[0], 1, 70000, 9, one[4], Code.hash(one), 17, -1, 0);
        is(x, 2, Code.hash(one), 2, 70001, 10, 0, Code.hash(two), 27, -1, 0);
        x.work();
        Talk.give(x, 0, Code.body(2, 1, 2, 3));
        is(x, 1, one[0], 1, 70000, 9, one[4], Code.hash(one), 17, 3, 1);
        is(x, 2, Code.hash(one), 2, 70001, 10, 0, Code.hash(two), 27, -1, 0);
        int[] three = Code.child(two, 70002, 10, 9);
        int[] four = Code.child(three, 70003, 10, 8, 7);
        x.work();
        Talk.give(x, 0, Code.body(3));
        x.work();
        Talk.give(x, 0, Code.headers(4, three, four));
        Talk.ready(x, 1, 1, 9);
        x.work();
        Talk.give(x, 1, Code.body(6, 8, 7));
        // It has a body, but its parent has none.
        is(x, 4, Code.hash(three), 4, 70003, 10, four[4], Code.hash(four), 47, 2, 0);
        for (int k : new int[] {-1, 5, 19, 20, Integer.MIN_VALUE, Integer.MAX_VALUE}) {
            for (int which = -1; which < 10; which++) {
                DUE.is("block(" + k + ", " + which + ")", x.block(k, which), ChainPeers.NONE);
            }
        }
        for (int which : new int[] {-1, 9, Integer.MIN_VALUE, Integer.MAX_VALUE}) {
            DUE.is("block(0, " + which + ")", x.block(0, which), ChainPeers.NONE);
        }
        DUE.end();
    }

    private static void is(Node x, int k, int... want) {
        for (int which = 0; which < 9; which++) {
            DUE.is("block(" + k + ", " + which + ")", x.block(k, which), want[which]);
        }
    }
}
