/** Promise 1: a new object. */
public final class Promise01Test {
    private static final Due DUE = new Due();

    public static void main(String[] args) {
        for (int chain : new int[] {0, 1, 127, 128, 255, 256, 65536, 16777216, Integer.MAX_VALUE}) {
            chainIs(chain, chain);
        }
        chainIs(-1, 0);
        chainIs(Integer.MIN_VALUE, 0);
        for (int wait = 1; wait <= 30; wait++) {
            waitIs(wait, wait);
        }
        waitIs(0, 1);
        waitIs(-7, 1);
        waitIs(Integer.MIN_VALUE, 1);
        waitIs(31, 30);
        waitIs(Integer.MAX_VALUE, 30);
        startsEmpty();
        DUE.end();
    }

    private static void chainIs(int given, int chain) {
        Node x = new Node(given, 1);
        x.open(0);
        DUE.bytes("HELLO of chain " + given, Talk.sent(x, 0), Code.hello(chain, 0));
        DUE.is("HELLO of chain " + chain, Talk.give(x, 0, Code.hello(chain, 5)), 0);
        DUE.is("state after it", x.peer(0, Talk.STATE), Talk.READY);
    }

    private static void waitIs(int given, int wait) {
        Node x = new Node(1, given);
        Talk.ready(x, 0, 1, 9);
        x.work();
        DUE.is("wait " + given + ": tick(" + wait + ")", x.tick(wait), 0);
        DUE.is("wait " + given + ": one tick more", x.tick(1), 1);
    }

    private static void startsEmpty() {
        Node x = new Node(1, 1);
        int[] states = {1, 0, 0, 0, 0};
        for (int which = 0; which < 5; which++) {
            DUE.is("new: state(" + which + ")", x.state(which), states[which]);
        }
        for (int p = 0; p < 4; p++) {
            for (int which = 0; which < 6; which++) {
                DUE.is("new: peer(" + p + ", " + which + ")", x.peer(p, which), 0);
            }
        }
        int[] first = {0, 0, 0, 8, 0, Code.GENESIS_HASH, 8, 0, 1};
        for (int which = 0; which < 9; which++) {
            DUE.is("new: block(0, " + which + ")", x.block(0, which), first[which]);
        }
        DUE.is("new: wire(-1)", x.wire(-1), 0);
        DUE.is("new: work()", x.work(), 0);
    }
}
