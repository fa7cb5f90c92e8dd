/** Promise 15: state. */
public final class Promise15Test {
    private static final Due DUE = new Due();

    public static void main(String[] args) {
        Node x = new Node(1, 5);
        is(x, 1, 0, 0, 0, 0);
        x.seal(1, 8, 1);
        is(x, 2, 1, 1, 0, 0);
        x.tick(7);
        Talk.ready(x, 0, 1, 9);
        x.work();
        is(x, 2, 1, 1, 7, 1);
        int[] one = {x.block(1, 0), x.block(1, 1), x.block(1, 2), x.block(1, 3), x.block(1, 4)};
        int[] two = Code.child(one, 2, 8, 3);
        int[] three = Code.child(two, 3, 8, 4);
        Talk.give(x, 0, Code.headers(1, two, three));
        is(x, 4, 3, 1, 7, 1);
        x.work();
        Talk.give(x, 0, Code.body(2, 3));
        is(x, 4, 3, 2, 7, 2);
        Talk.ready(x, 1, 1, 9);
        x.work();
        x.tick(6);
        is(x, 4, 3, 2, 13, 4);
        for (int which : new int[] {-1, 5, Integer.MIN_VALUE, Integer.MAX_VALUE}) {
            DUE.is("state(" + which + ")", x.state(which), ChainPeers.NONE);
        }
        sameTotals();
        greatestTotals();
        DUE.end();
    }

    /** Of several with the greatest TOTAL the least is HEAVIEST, and the least of those IMPORTED is HEAD. */
    private static void sameTotals() {
        Node x = new Node(1, 5);
        Talk.ready(x, 0, 1, 9);
        x.work();
        Talk.give(x, 0, Code.headers(1, Code.child(Code.GENESIS, 4, 9, 6)));
        x.seal(5, 9, 7);
        is(x, 3, 1, 2, 0, 1);
        x.work();
        Talk.give(x, 0, Code.body(2, 6));
        is(x, 3, 1, 1, 0, 2);
    }

    /** Blocks, not NUMBERs, are answered, and a greater TOTAL counts for more than a longer CHAIN. */
    private static void greatestTotals() {
        Node x = new Node(1, 5);
        Talk.ready(x, 0, 1, 9);
        x.work();
        int[] one = Code.child(Code.GENESIS, 1, 5, 1);
        Talk.give(x, 0, Code.headers(1, one, Code.child(one, 2, 3, 2)));
        is(x, 3, 2, 0, 0, 1);
        x.seal(1, 11, 3);
        is(x, 4, 3, 3, 0, 1);
        Node y = new Node(1, 5);
        Talk.ready(y, 0, 1, 9);
        y.work();
        int[] heavy = Code.child(Code.GENESIS, 1, 11, 1);
        Talk.give(y, 0, Code.headers(1, heavy));
        y.seal(1, 5, 2);
        y.seal(2, 4, 3);
        is(y, 4, 1, 3, 0, 1);
        y.work();
        Talk.give(y, 0, Code.body(2, 1));
        is(y, 4, 1, 1, 0, 2);
    }

    private static void is(Node x, int... want) {
        for (int which = 0; which < 5; which++) {
            DUE.is("state(" + which + ")", x.state(which), want[which]);
        }
    }
}
