/** Promise 5: clear. */
public final class Promise05Test {
    public static void main(String[] args) {
        Due due = new Due();
        Node x = new Node(1, 1);
        x.clear();
        due.is("clear an empty wire", x.wire(-1), 0);
        Talk.lay(x, 1, 2, 3);
        x.open(0);
        String before = Talk.view(x);
        x.clear();
        due.is("no byte", x.wire(-1), 0);
        due.is("not the first either", x.wire(0), ChainPeers.NONE);
        due.is("all else stays", before.equals(Talk.view(x)), true);
        x.put(1, 9);
        due.bytes("old bytes do not come back", Talk.onWire(x), new int[] {9});
        due.end();
    }
}
