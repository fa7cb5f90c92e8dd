/** Promise 7: receive, as to what is the code of a message and what is BROKEN. */
public final class Promise07CodesTest {
    private static final Due DUE = new Due();
    private static final int B = ChainPeers.BROKEN;

    public static void main(String[] args) {
        numbers();
        texts();
        lists();
        shapes();
        headers();
        bodies();
        everyWireOfUpToThreeBytes();
        faultOfFour();
        DUE.end();
    }

    /** What a READY peer is answered for these bytes, before any request was made. */
    private static void due(String name, int want, int... bytes) {
        Node x = new Node(1, 9);
        Talk.ready(x, 0, 1, 0);
        DUE.is(name, Talk.give(x, 0, bytes), want);
        DUE.bytes(name + ": the wire stays", Talk.onWire(x), bytes);
        if (want == B) {
            DUE.is(name + ": a FAULT of 4", x.peer(0, Talk.SCORE), -4);
            DUE.is(name + ": BANNED", x.peer(0, Talk.STATE), Talk.BANNED);
        }
    }

    private static void numbers() {
        for (int n : new int[] {0, 1, 127, 128, 255, 256, 65535, 65536, 16777215, 16777216, Integer.MAX_VALUE}) {
            due("id " + n, 3, Code.askBody(n, n));
        }
        due("0 as a byte 0", B, 195, 3, 0, 5);
        due("0 as a text of a byte 0", B, 196, 3, 129, 0, 5);
        due("127 with a length", B, 196, 3, 129, 127, 5);
        due("128 with a length", 3, 196, 3, 129, 128, 5);
        due("2 bytes with a 0 at the front", B, 197, 3, 130, 0, 128, 5);
        due("2 bytes", 3, 197, 3, 130, 1, 0, 5);
        due("3 bytes with a 0 at the front", B, 198, 3, 131, 0, 1, 0, 5);
        due("3 bytes", 3, 198, 3, 131, 1, 0, 0, 5);
        due("4 bytes with a 0 at the front", B, 199, 3, 132, 0, 255, 255, 255, 5);
        due("4 bytes", 3, 199, 3, 132, 1, 0, 0, 0, 5);
        due("2^31 - 1", 3, 199, 3, 132, 127, 255, 255, 255, 5);
        due("2^31", B, 199, 3, 132, 128, 0, 0, 0, 5);
        due("2^32 - 1", B, 199, 3, 132, 255, 255, 255, 255, 5);
        due("5 bytes", B, 200, 3, 133, 1, 0, 0, 0, 0, 5);
        due("5 bytes with a 0 at the front", B, 200, 3, 133, 0, 1, 0, 0, 0, 5);
        due("a list for a number", B, 195, 3, 192, 5);
        due("a list of a number for a number", B, 196, 3, 193, 5, 5);
    }

    private static void texts() {
        due("a message as a text", B, 129, 133);
        due("no list at all", B, 5);
        for (int first = 184; first < 192; first++) {
            due("first byte " + first, B, first, 3, 1, 5);
            due("inner byte " + first, B, 195, 3, first, 5);
        }
        for (int first = 248; first < 256; first++) {
            due("first byte " + first, B, first, 3, 1, 5);
            due("inner byte " + first, B, 196, 4, 1, first, 5);
        }
        due("a list with its length in a byte of its own", B, 248, 3, 3, 1, 5);
        due("a text with its length in a byte of its own", B, 196, 3, 184, 1, 200);
        due("a number beyond the end", B, 195, 3, 1, 130);
        due("a number beyond the end", B, 195, 3, 1, 129);
        due("a number beyond the list but not the wire", B, 195, 3, 1, 129, 200);
    }

    private static void lists() {
        due("nothing", B);
        due("an empty list", B, 192);
        due("a byte too many", B, 193, 5, 5);
        due("a byte too many, 0", B, 193, 5, 0);
        due("a byte too few", B, 194, 5);
        due("a byte too few", B, 195, 3, 1);
        due("two messages", B, 193, 5, 193, 5);
        due("a message in a list", B, 194, 193, 5);
        due("a list that ends behind its own list", B, 196, 4, 1, 194, 7, 8);
        due("a list that ends behind the wire", B, 195, 4, 1, 193);
        due("a list that ends before the message does", B, 197, 4, 1, 193, 7, 8);
    }

    private static void shapes() {
        due("HELLO", ChainPeers.ODD, Code.hello(1, 1));
        due("HELLO with one less", B, Code.list(0, 1));
        due("HELLO with one more", B, Code.list(0, 1, 1, 1));
        due("HELLO with a kind of a 0 byte", B, 195, 0, 1, 1);
        due("ASK-HEADERS", 1, Code.askHeaders(1, 1, 1));
        due("ASK-HEADERS with one less", B, Code.list(1, 1, 1));
        due("ASK-HEADERS with one more", B, Code.list(1, 1, 1, 1, 1));
        due("HEADERS without a list", B, Code.list(2, 1));
        due("HEADERS with a number", B, Code.list(2, 1, 1));
        due("HEADERS with the empty text", B, Code.list(2, 1, 0));
        due("HEADERS with one more", B, Code.list(2, 1, new Object[0], 1));
        due("HEADERS, the list before the id", B, Code.list(2, new Object[0], 1));
        due("ASK-BODY", 3, Code.askBody(1, 1));
        due("ASK-BODY with one less", B, Code.list(3, 1));
        due("ASK-BODY with one more", B, Code.list(3, 1, 1, 1));
        due("BODY without a list", B, Code.list(4, 1));
        due("BODY with a number", B, Code.list(4, 1, 1));
        due("BODY with one more", B, Code.list(4, 1, new Object[0], new Object[0]));
        due("BYE", 5, 193, 5);
        due("BYE with one more", B, Code.list(5, 5));
        due("kind 6", B, Code.list(6));
        due("kind 6", B, Code.list(6, 1, 1));
        due("kind 127", B, Code.list(127));
        due("kind 256", B, Code.list(256, 1, 1));
        due("a kind that is a list", B, Code.list(new Object[0], 1, 1));
    }

    private static void headers() {
        Object[] small = Code.numbers(0, 0, 0, 0, 0);
        due("no headers", ChainPeers.ODD, Code.list(2, 1, new Object[0]));
        Object[] eight = {small, small, small, small, small, small, small, small};
        due("eight headers", ChainPeers.ODD, Code.list(2, 1, eight));
        int big = Integer.MAX_VALUE;
        due("the largest header", ChainPeers.ODD, Code.headers(big, new int[] {big, big, big, big, big}));
        due("a header of four", B, Code.list(2, 1, new Object[] {Code.numbers(1, 1, 1, 1)}));
        due("a header of six", B, Code.list(2, 1, new Object[] {Code.numbers(1, 1, 1, 1, 1, 1)}));
        due("a header of six and one of four", B, Code.list(2, 1, new Object[] {
            Code.numbers(1, 1, 1, 1, 1, 1), Code.numbers(1, 1, 1, 1)}));
        due("a header in a header", B, Code.list(2, 1, new Object[] {new Object[] {1, 1, 1, 1, 1, small}}));
        due("a header that ends within the next one", B, 207, 2, 1, 204, 198, 1, 1, 1, 1, 1, 197, 1, 1, 1, 1, 1);
        due("the second header of four", B, Code.list(2, 1, new Object[] {small, Code.numbers(1, 1, 1, 1)}));
        due("five numbers, no list", B, Code.list(2, 1, Code.numbers(1, 1, 1, 1, 1)));
        due("a header with a list", B, Code.list(2, 1, new Object[] {new Object[] {1, 1, 1, 1, new Object[0]}}));
        due("a header and a number", B, Code.list(2, 1, new Object[] {small, 1}));
        due("a header with a 0 byte", B, 201, 2, 1, 198, 197, 0, 1, 1, 1, 1);
        due("a header beyond its list", B, 201, 2, 1, 197, 197, 1, 1, 1, 1, 1);
        due("a header's number beyond the header", B, 202, 2, 1, 199, 197, 1, 1, 1, 1, 129, 200);
        due("56 bytes of HEADERS", ChainPeers.ODD, Code.list(2, 1, new Object[] {
            small, small, small, small, small, small, Code.numbers(0, 0, big, big, 256)}));
        due("2^31 in a header", B, Code.list(2, 1, new Object[] {
            new Object[] {1, 1, 1, 1, new int[] {128, 0, 0, 0}}}));
    }

    private static void bodies() {
        due("no number", ChainPeers.ODD, Code.body(1));
        int big = Integer.MAX_VALUE;
        due("eight numbers", ChainPeers.ODD, Code.body(1, 1, 2, 3, 4, 5, 6, 7, 8));
        due("eight large numbers", ChainPeers.ODD, Code.body(big, big, big, big, big, big, big, big, big));
        due("nine numbers", B, Code.body(1, 1, 2, 3, 4, 5, 6, 7, 8, 9));
        due("fifty numbers", B, Code.body(1, new int[50]));
        due("a 0 byte in a body", B, 197, 4, 1, 194, 1, 0);
        due("a list in a body", B, 197, 4, 1, 194, 1, 192);
        due("2^31 in a body", B, Code.list(4, 1, new Object[] {new int[] {128, 0, 0, 0}}));
    }

    /** Of all wires so short, BYE alone is a message. */
    private static void everyWireOfUpToThreeBytes() {
        for (int a = 0; a < 256; a++) {
            oneShortWire(B, a);
            for (int b = 0; b < 256; b++) {
                oneShortWire(a == 193 && b == 5 ? 5 : B, a, b);
            }
        }
        for (int a = 190; a < 200; a++) {
            for (int b = 0; b < 256; b++) {
                for (int c = 0; c < 256; c += c < 8 ? 1 : 31) {
                    oneShortWire(B, a, b, c);
                }
            }
        }
    }

    private static void oneShortWire(int want, int... bytes) {
        Node x = new Node(1, 9);
        x.open(0);
        DUE.is(java.util.Arrays.toString(bytes), Talk.give(x, 0, bytes), want);
    }

    private static void faultOfFour() {
        Node x = new Node(1, 9);
        x.open(1);
        DUE.is("BROKEN, GREETING", Talk.give(x, 1, 195, 128), B);
        DUE.is("SCORE", x.peer(1, Talk.SCORE), -4);
        DUE.is("BANNED", x.peer(1, Talk.STATE), Talk.BANNED);
        DUE.is("outbox", x.peer(1, Talk.OUTBOX), 0);
        DUE.is("receive from a BANNED one", x.receive(1), ChainPeers.NONE);
        DUE.is("SCORE", x.peer(1, Talk.SCORE), -4);
        // One MERIT before leaves room for a FAULT of 4.
        Talk.ready(x, 0, 1, 9);
        x.work();
        Talk.give(x, 0, Code.headers(1, Code.child(Code.GENESIS, 1, 8)));
        DUE.is("BROKEN after a MERIT", Talk.give(x, 0), B);
        DUE.is("SCORE", x.peer(0, Talk.SCORE), -3);
        DUE.is("READY", x.peer(0, Talk.STATE), Talk.READY);
        DUE.is("BROKEN again", Talk.give(x, 0), B);
        DUE.is("SCORE", x.peer(0, Talk.SCORE), -7);
        DUE.is("BANNED", x.peer(0, Talk.STATE), Talk.BANNED);
        DUE.is("no such peer", x.receive(4), ChainPeers.NONE);
        DUE.is("no such peer", x.receive(-1), ChainPeers.NONE);
        DUE.is("a CLOSED peer", x.receive(3), ChainPeers.NONE);
        DUE.is("its SCORE", x.peer(3, Talk.SCORE), 0);
    }
}
