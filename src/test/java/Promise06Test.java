/** Promise 6: wire. */
public final class Promise06Test {
    public static void main(String[] args) {
        Due due = new Due();
        Node x = new Node(1, 1);
        due.is("wire(-1)", x.wire(-1), 0);
        due.is("wire(0)", x.wire(0), ChainPeers.NONE);
        x.put(3, 0xff0080);
        due.is("wire(-1)", x.wire(-1), 3);
        due.is("wire(0)", x.wire(0), 255);
        due.is("wire(1)", x.wire(1), 0);
        due.is("wire(2)", x.wire(2), 128);
        for (int k : new int[] {3, 55, 56, 57, -2, -3, Integer.MIN_VALUE, Integer.MAX_VALUE}) {
            due.is("wire(" + k + ")", x.wire(k), ChainPeers.NONE);
        }
        for (int k = 3; k < 56; k++) {
            x.put(1, k);
        }
        for (int k = 3; k < 56; k++) {
            due.is("wire(" + k + ")", x.wire(k), k);
        }
        due.is("wire(56)", x.wire(56), ChainPeers.NONE);
        due.end();
    }
}
