/** Promise 4: put. */
public final class Promise04Test {
    private static final Due DUE = new Due();

    public static void main(String[] args) {
        long bytes = 0x8123456789abcdefL;
        int[] all = {0x81, 0x23, 0x45, 0x67, 0x89, 0xab, 0xcd, 0xef};
        for (int n = 1; n <= 8; n++) {
            Node x = new Node(1, 1);
            DUE.is("put(" + n + ")", x.put(n, bytes), true);
            DUE.bytes("wire", Talk.onWire(x), java.util.Arrays.copyOfRange(all, 8 - n, 8));
        }
        for (int n : new int[] {0, 9, -1, 64, Integer.MIN_VALUE, Integer.MAX_VALUE}) {
            Node x = new Node(1, 1);
            x.put(1, 5);
            DUE.is("put(" + n + ")", x.put(n, bytes), false);
            DUE.bytes("wire as it was", Talk.onWire(x), new int[] {5});
        }
        fills();
        DUE.end();
    }

    private static void fills() {
        Node x = new Node(1, 1);
        for (int i = 0; i < 6; i++) {
            DUE.is("put(8)", x.put(8, -1L), true);
        }
        DUE.is("put(7)", x.put(7, 0), true);
        DUE.is("put(2) at 55", x.put(2, 0), false);
        DUE.is("still 55", x.wire(-1), 55);
        DUE.is("put(1) at 55", x.put(1, 255), true);
        DUE.is("56", x.wire(-1), 56);
        DUE.is("the last one", x.wire(55), 255);
        DUE.is("put(1) at 56", x.put(1, 1), false);
        DUE.is("put(8) at 56", x.put(8, 1), false);
        DUE.is("still 56", x.wire(-1), 56);
        x.clear();
        DUE.is("put after clear", x.put(8, 1), true);
        DUE.bytes("it begins anew", Talk.onWire(x), new int[] {0, 0, 0, 0, 0, 0, 0, 1});
    }
}
