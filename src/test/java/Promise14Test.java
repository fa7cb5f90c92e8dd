/** Promise 14: tx. */
public final class Promise14Test {
    public static void main(String[] args) {
        Due due = new Due();
        Node x = new Node(1, 5);
        Talk.ready(x, 0, 1, 9);
        x.work();
        int[] body = {0, 1, 127, 128, 255, 256, 70000, Integer.MAX_VALUE};
        Talk.give(x, 0, Code.headers(1, Code.child(Code.GENESIS, 1, 9, body)));
        for (int i = -1; i < 9; i++) {
            due.is("no body: tx(1, " + i + ")", x.tx(1, i), ChainPeers.NONE);
        }
        x.work();
        due.is("BODY", Talk.give(x, 0, Code.body(2, body)), 4);
        Talk.lay(x, new int[56]);
        for (int i = 0; i < 8; i++) {
            due.is("tx(1, " + i + ")", x.tx(1, i), body[i]);
        }
        x.seal(2, 9, 5);
        due.is("tx(2, 0)", x.tx(2, 0), 5);
        due.is("tx(2, 1)", x.tx(2, 1), ChainPeers.NONE);
        due.is("tx(0, 0)", x.tx(0, 0), ChainPeers.NONE);
        for (int i : new int[] {-1, 8, 9, Integer.MIN_VALUE, Integer.MAX_VALUE}) {
            due.is("tx(1, " + i + ")", x.tx(1, i), ChainPeers.NONE);
        }
        for (int k : new int[] {-1, 3, 20, Integer.MIN_VALUE, Integer.MAX_VALUE}) {
            due.is("tx(" + k + ", 0)", x.tx(k, 0), ChainPeers.NONE);
        }
        due.end();
    }
}
