import java.util.Arrays;

/** The edges of what is exactly the code of a message: lengths of lists, how many items, how many numbers. */
public final class EdgesOfMessagesTest {
    private static final Due DUE = new Due();
    private static final int BIG = Integer.MAX_VALUE;
    private static final int B = ChainPeers.BROKEN;

    public static void main(String[] args) {
        emptyWire();
        listOfAtMost55Bytes();
        nothingElseIsTheCodeOfAnItem();
        everyListLengthOneOff();
        bytesTooManyOrTooFew();
        itemsTooManyOrTooFew();
        listsForNumbersAndNumbersForLists();
        headersOfFiveNumbers();
        asManyHeadersAsFit();
        bodyOfAtMostEight();
        brokenIsAFaultOfFour();
        DUE.end();
    }

    /** A node of chain 1 whose peer 0 is asked for headers from 1 on with the id 1. */
    private static Node asking() {
        Node x = new Node(1, 9);
        Talk.ready(x, 0, 1, 99);
        x.work();
        x.send(0);
        return x;
    }

    private static void due(String name, int want, int... bytes) {
        Node x = new Node(1, 9);
        Talk.ready(x, 0, 1, 0);
        DUE.is(name, Talk.give(x, 0, bytes), want);
    }

    private static void emptyWire() {
        DUE.sentence("BROKEN if the wire (also an empty one) is not exactly the code of a message");
        due("no byte", B);
        due("one byte, an empty list", B, 192);
        due("one byte, an empty text", B, 128);
        due("one byte, a text", B, 5);
        due("two bytes, BYE", 5, 193, 5);
        Node x = new Node(1, 9);
        x.open(0);
        DUE.is("nothing was ever put on the wire", x.receive(0), B);
        x.open(1);
        x.send(1);
        x.clear();
        DUE.is("a message was cleared away", x.receive(1), B);
    }

    /** Three linked headers that are GOOD, with numbers as large as can be but for the last ROOT. */
    private static int[][] threeHeaders(int lastRoot) {
        int[] one = {Code.GENESIS_HASH, 1, BIG - 2, 8, BIG};
        int[] two = {Code.hash(one), 2, BIG - 1, 8, BIG};
        int[] three = {Code.hash(two), 3, BIG, 8, lastRoot};
        return new int[][] {one, two, three};
    }

    private static void listOfAtMost55Bytes() {
        DUE.sentence("of a list the byte 192 + n and then the codes of its items, n at most 55");
        int[] roots = {5, 200, 300};
        for (int i = 0; i < 3; i++) {
            Node x = asking();
            int[] message = Code.headers(1, threeHeaders(roots[i]));
            DUE.is("its length", message.length, 54 + i);
            DUE.is("n", message[0], 192 + 53 + i);
            DUE.is("HEADERS", Talk.give(x, 0, message), 2);
            DUE.is("three blocks more", x.state(0), 4);
        }
        int[] full = Code.headers(1, threeHeaders(300));
        for (int first : new int[] {245, 246, 248, 249, 255, 183, 184, 0}) {
            Node x = asking();
            int[] wrong = full.clone();
            wrong[0] = first;
            DUE.is("the same 56 bytes with the first " + first, Talk.give(x, 0, wrong), B);
            DUE.is("no block", x.state(0), 1);
        }
        // The 57 bytes of this one do not fit the wire, and what does fit is no message.
        int[] tooLong = Code.headers(1, threeHeaders(70000));
        DUE.is("its length", tooLong.length, 57);
        Node x = asking();
        Talk.lay(x, Arrays.copyOf(tooLong, 56));
        DUE.is("the last byte", x.put(1, tooLong[56]), false);
        DUE.is("56 of its 57 bytes", x.receive(0), B);
    }

    private static void nothingElseIsTheCodeOfAnItem() {
        DUE.sentence("Nothing else is the code of an item");
        for (int first = 184; first < 192; first++) {
            due("a text's first byte " + first, B, 195, 3, 1, first);
            due("a text's first byte " + first + " before a length", B, 197, 3, 1, first, 1, 200);
        }
        for (int first = 248; first < 256; first++) {
            due("a list's first byte " + first, B, first, 5);
            due("a list's first byte " + first + " before a length", B, first, 1, 5);
            due("an inner list's first byte " + first, B, 196, 4, 1, first, 1);
        }
        int[] body = new int[56];
        Arrays.fill(body, 1);
        body[0] = 248;
        body[1] = 54;
        body[2] = 5;
        due("a list of 54 bytes with its length in a byte of its own", B, body);
        due("a text of 55 bytes", B, text(55));
        due("a text of 54 bytes", B, text(54));
    }

    private static int[] text(int n) {
        int[] text = new int[n + 1];
        Arrays.fill(text, 5);
        text[0] = 128 + n;
        return text;
    }

    /** Every first byte of a list in these messages, made one larger and one smaller. */
    private static void everyListLengthOneOff() {
        DUE.sentence("the byte 192 + n and then the codes of its items, which have n bytes in all");
        int[] header = {200, 1, 300, 8, 128};
        int[][] messages = {
            Code.hello(1, 2), Code.askHeaders(1, 2, 3), Code.headers(1), Code.headers(1, header),
            Code.headers(1, header, header), Code.askBody(1, 2), Code.body(1), Code.body(1, 5), Code.body(1, 5, 6, 7),
            Code.bye(),
        };
        int[] answers = {ChainPeers.ODD, 1, ChainPeers.ODD, ChainPeers.ODD, ChainPeers.ODD, 3, ChainPeers.ODD,
            ChainPeers.ODD, ChainPeers.ODD, 5};
        for (int i = 0; i < messages.length; i++) {
            due("message " + i, answers[i], messages[i]);
            for (int at = 0; at < messages[i].length; at++) {
                if (messages[i][at] < 192 || at > 0 && messages[i][at - 1] == 129) {
                    continue;
                }
                for (int more : new int[] {-1, 1}) {
                    int[] wrong = messages[i].clone();
                    wrong[at] += more;
                    due("message " + i + ", byte " + at + " is " + wrong[at], B, wrong);
                }
            }
        }
    }

    private static void bytesTooManyOrTooFew() {
        DUE.sentence("not exactly the code of a message");
        int[][] messages = {Code.hello(1, 2), Code.askHeaders(1, 2, 3), Code.headers(1), Code.headers(1, Code.GENESIS),
            Code.askBody(1, 200), Code.body(1), Code.body(1, 200), Code.bye()};
        for (int[] message : messages) {
            for (int n = 0; n < message.length; n++) {
                due("the first " + n + " bytes of kind " + message[1], B, Arrays.copyOf(message, n));
            }
            for (int more : new int[] {0, 1, 5, 128, 192, 255}) {
                int[] longer = Arrays.copyOf(message, message.length + 1);
                longer[message.length] = more;
                due("kind " + message[1] + " and the byte " + more, B, longer);
            }
            due("a list round kind " + message[1], B, Code.listOfCodes(message));
            due("kind " + message[1] + " twice", B, twice(message));
        }
    }

    private static int[] twice(int[] message) {
        int[] two = Arrays.copyOf(message, 2 * message.length);
        System.arraycopy(message, 0, two, message.length, message.length);
        return two;
    }

    private static void itemsTooManyOrTooFew() {
        DUE.sentence("HELLO (k, chain, best), ASK-HEADERS (k, id, from, count), .. BYE (k)");
        int odd = ChainPeers.ODD;
        Object[] none = {};
        Object[][] items = {{0, 1, 1}, {1, 1, 1, 1}, {2, 1, none}, {3, 1, 1}, {4, 1, none}, {5}};
        int[] answers = {odd, 1, odd, 3, odd, 5};
        for (int kind = 0; kind < 6; kind++) {
            due("kind " + kind, answers[kind], Code.list(items[kind]));
            int n = items[kind].length;
            for (int shorter = 1; shorter < n; shorter++) {
                due("kind " + kind + " with " + shorter, B, Code.list(Arrays.copyOf(items[kind], shorter)));
            }
            for (Object more : new Object[] {0, 1, none}) {
                Object[] longer = Arrays.copyOf(items[kind], n + 1);
                longer[n] = more;
                due("kind " + kind + " with one more", B, Code.list(longer));
            }
        }
        for (int n = 1; n < 7; n++) {
            Object[] unknown = new Object[n];
            Arrays.fill(unknown, 1);
            unknown[0] = 6;
            due("kind 6 with " + n, B, Code.list(unknown));
        }
    }

    private static void listsForNumbersAndNumbersForLists() {
        DUE.sentence("all the rest are numbers, too, where nothing else is said");
        Object[] none = {};
        Object[][] wrong = {{none, 1, 1}, {0, none, 1}, {0, 1, none}, {1, none, 1, 1}, {1, 1, none, 1}, {1, 1, 1, none},
            {2, none, none}, {2, none, 1}, {2, 1, 1}, {2, 1, 0}, {3, none, 1}, {3, 1, none}, {4, none, none}, {4, 1, 1},
            {4, 1, 0}, {4, none, 1}, {none}, {new Object[] {5}}};
        for (int i = 0; i < wrong.length; i++) {
            due("wrong shape " + i, B, Code.list(wrong[i]));
        }
        due("a text where the list of headers is due", B, 196, 2, 1, 129, 200);
        due("a text where the list of numbers is due", B, 196, 4, 1, 129, 200);
        due("a number in the list of headers", B, 196, 2, 1, 193, 1);
        due("a list in the list of numbers", B, 196, 4, 1, 193, 192);
    }

    private static void headersOfFiveNumbers() {
        DUE.sentence("A HEADER is a list of five numbers");
        for (int n = 0; n < 8; n++) {
            int[] header = Arrays.copyOf(Code.child(Code.GENESIS, 1, 8), n);
            int want = n == 5 ? 2 : B;
            DUE.is(n + " numbers", Talk.give(asking(), 0, Code.headers(1, header)), want);
            int[] good = Code.child(Code.GENESIS, 1, 8);
            int[] second = Arrays.copyOf(Code.child(good, 2, 8), n);
            Node x = asking();
            DUE.is("a second one of " + n, Talk.give(x, 0, Code.headers(1, good, second)), want);
            DUE.is("blocks", x.state(0), n == 5 ? 3 : 1);
        }
    }

    private static void asManyHeadersAsFit() {
        DUE.sentence("HEADERS (k, id, list of headers)");
        Object[] small = Code.numbers(1, 1, 1, 1, 1);
        for (int n = 0; n <= 8; n++) {
            Object[] list = new Object[n];
            Arrays.fill(list, small);
            due(n + " headers", ChainPeers.ODD, Code.list(2, 1, list));
            if (n < 8) {
                Object[] longer = Arrays.copyOf(list, n + 1);
                longer[n] = Code.numbers(1, 1, 1, 1);
                due(n + " headers and one of four numbers", B, Code.list(2, 1, longer));
            }
        }
        Object[] list = new Object[9];
        Arrays.fill(list, 0, 8, small);
        list[8] = Code.numbers(1, 1, 1);
        due("eight and what else there is room for", B, Code.list(2, 1, list));
        list[8] = 1;
        due("eight and a number", B, Code.list(2, 1, list));
    }

    private static void bodyOfAtMostEight() {
        DUE.sentence("BODY (k, id, list of at most 8 numbers)");
        for (int n = 0; n <= 12; n++) {
            int[] body = new int[n];
            for (int i = 0; i < n; i++) {
                body[i] = 1000 * i;
            }
            Node x = asking();
            Talk.give(x, 0, Code.headers(1, Code.child(Code.GENESIS, 1, 8, body)));
            x.work();
            DUE.is(n + " numbers", Talk.give(x, 0, Code.body(2, body)), n <= 8 ? 4 : B);
            DUE.is("how many there are", x.block(1, 7), n <= 8 ? n : -1);
            for (int i = 0; i <= n; i++) {
                DUE.is("number " + i, x.tx(1, i), n <= 8 && i < n ? body[i] : ChainPeers.NONE);
            }
        }
        int[] fifty = new int[50];
        due("fifty numbers", B, Code.body(1, fifty));
        due("eight of the largest", ChainPeers.ODD, Code.body(BIG, BIG, BIG, BIG, BIG, BIG, BIG, BIG, BIG));
    }

    private static void brokenIsAFaultOfFour() {
        DUE.sentence("BROKEN ..: a FAULT of 4, GREETING or READY");
        Node x = new Node(1, 9);
        x.open(0);
        DUE.is("GREETING", x.receive(0), B);
        DUE.is("SCORE", x.peer(0, Talk.SCORE), -4);
        Node y = Talk.withScore(0);
        DUE.is("READY", Talk.give(y, 0, 193, 6), B);
        DUE.is("SCORE", y.peer(0, Talk.SCORE), -4);
        Node z = Talk.withScore(3);
        z.work();
        int id = z.peer(0, Talk.REQUEST);
        DUE.is("READY, with 3", Talk.give(z, 0, 193, 6), B);
        DUE.is("SCORE", z.peer(0, Talk.SCORE), -1);
        DUE.is("READY still", z.peer(0, Talk.STATE), Talk.READY);
        DUE.is("with its request", z.peer(0, Talk.REQUEST), id);
        DUE.is("and its outbox", z.peer(0, Talk.OUTBOX), 1);
        DUE.bytes("the wire stays", Talk.onWire(z), new int[] {193, 6});
    }
}
