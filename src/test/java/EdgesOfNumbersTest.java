/** The edges of 'NUMBERS are 0 .. 2^31 - 1' and of their codes, in every place where a message has a number. */
public final class EdgesOfNumbersTest {
    private static final Due DUE = new Due();
    private static final int BIG = Integer.MAX_VALUE;
    private static final int[][] RIGHT = {
        {128}, {1}, {127}, {129, 128}, {129, 255}, {130, 1, 0}, {130, 255, 255}, {131, 1, 0, 0}, {131, 255, 255, 255},
        {132, 1, 0, 0, 0}, {132, 127, 255, 255, 254}, {132, 127, 255, 255, 255},
    };
    private static final int[] VALUES = {0, 1, 127, 128, 255, 256, 65535, 65536, 16777215, 16777216, BIG - 1, BIG};
    private static final int[][] ZERO_AT_FRONT = {
        {0}, {129, 0}, {130, 0, 0}, {130, 0, 1}, {130, 0, 127}, {130, 0, 128}, {130, 0, 255}, {131, 0, 1, 0},
        {131, 0, 255, 255}, {132, 0, 1, 0, 0}, {132, 0, 255, 255, 255}, {133, 0, 1, 0, 0, 0}, {133, 0, 127, 255, 255, 255},
        {136, 0, 0, 0, 0, 0, 0, 0, 1},
    };
    private static final int[][] BYTE_BELOW_128_WITH_A_LENGTH = {{129, 1}, {129, 2}, {129, 5}, {129, 126}, {129, 127}};
    // Those of more than 4 bytes are small numbers for a program that lets them wrap around.
    private static final int[][] TOO_LARGE = {
        {132, 128, 0, 0, 0}, {132, 128, 0, 0, 1}, {132, 255, 255, 255, 255}, {133, 1, 0, 0, 0, 0}, {133, 1, 0, 0, 0, 5},
        {133, 255, 255, 255, 255, 255}, {136, 1, 0, 0, 0, 0, 0, 0, 5}, {136, 128, 0, 0, 0, 0, 0, 0, 5},
        {137, 1, 0, 0, 0, 0, 0, 0, 0, 5},
    };
    private static final int[][] NO_TEXT = {{192}, {193, 1}, {193, 5}, {184, 1}, {185, 0, 1}, {191}, {248, 1}, {255}};

    public static void main(String[] args) {
        rightInEveryPlace();
        zeroAtTheFront();
        oneByteBelow128();
        tooLarge();
        noText();
        kinds();
        valuesThatCome();
        valuesThatGo();
        DUE.end();
    }

    /** The message of that place with this code there; null if there is no such place. */
    private static int[] inPlace(int place, int[] code) {
        int[] one = {1};
        switch (place) {
            case 0:
                return Code.listOfCodes(new int[] {128}, code, one);
            case 1:
                return Code.listOfCodes(new int[] {128}, one, code);
            case 2:
                return Code.listOfCodes(one, code, one, one);
            case 3:
                return Code.listOfCodes(one, one, code, one);
            case 4:
                return Code.listOfCodes(one, one, one, code);
            case 5:
                return Code.listOfCodes(new int[] {2}, code, Code.listOfCodes());
            case 6:
                return Code.listOfCodes(new int[] {3}, code, one);
            case 7:
                return Code.listOfCodes(new int[] {3}, one, code);
            case 8:
                return Code.listOfCodes(new int[] {4}, code, Code.listOfCodes());
            case 9:
                return Code.listOfCodes(new int[] {4}, one, Code.listOfCodes(code, one));
            case 10:
                return Code.listOfCodes(new int[] {4}, one, Code.listOfCodes(one, one, one, one, one, one, one, code));
            default:
                return place < 21 ? inHeader((place - 11) / 5, (place - 11) % 5, code) : null;
        }
    }

    /** HEADERS of two, with this code as one number of one of them. */
    private static int[] inHeader(int header, int number, int[] code) {
        int[][] codes = {{1}, {1}, {1}, {1}, {1}};
        int[] plain = Code.listOfCodes(codes);
        codes[number] = code;
        int[] odd = Code.listOfCodes(codes);
        int[] list = header == 0 ? Code.listOfCodes(odd, plain) : Code.listOfCodes(plain, odd);
        return Code.listOfCodes(new int[] {2}, new int[] {1}, list);
    }

    /** What is answered to the message of a place: HELLO is said by a GREETING peer, the rest by a READY one. */
    private static int answer(int place, int[] message) {
        Node x = new Node(1, 9);
        x.open(0);
        if (place > 1) {
            Talk.give(x, 0, Code.hello(1, 9));
        }
        return Talk.give(x, 0, message);
    }

    private static int dueAnswer(int place) {
        if (place < 2) {
            return 0;
        }
        if (place < 5) {
            return 1;
        }
        // HEADERS and BODY were not asked for.
        return place == 6 || place == 7 ? 3 : ChainPeers.ODD;
    }

    private static void everyPlace(int[][] codes, boolean right) {
        for (int place = 0; inPlace(place, codes[0]) != null; place++) {
            for (int[] code : codes) {
                String name = "place " + place + ", code " + java.util.Arrays.toString(code);
                DUE.is(name, answer(place, inPlace(place, code)), right ? dueAnswer(place) : ChainPeers.BROKEN);
            }
        }
    }

    private static void rightInEveryPlace() {
        DUE.sentence("NUMBERS are 0 .. 2^31 - 1; 0 is the empty text");
        everyPlace(RIGHT, true);
    }

    private static void zeroAtTheFront() {
        DUE.sentence("without a 0 byte at its front");
        everyPlace(ZERO_AT_FRONT, false);
    }

    private static void oneByteBelow128() {
        DUE.sentence("The CODE of a text of one byte below 128 is that byte");
        everyPlace(BYTE_BELOW_128_WITH_A_LENGTH, false);
    }

    private static void tooLarge() {
        DUE.sentence("NUMBERS are 0 .. 2^31 - 1: above");
        everyPlace(TOO_LARGE, false);
    }

    private static void noText() {
        DUE.sentence("A number as an item is the text of its bytes");
        everyPlace(NO_TEXT, false);
    }

    private static void kinds() {
        DUE.sentence("A MESSAGE is a list of one of these six kinds (k is the kind as a number)");
        int[][] wrong = {{0}, {129, 0}, {129, 5}, {130, 0, 5}, {133, 1, 0, 0, 0, 5}, {137, 1, 0, 0, 0, 0, 0, 0, 0, 5},
            {6}, {127}, {129, 128}, {129, 133}, {130, 1, 5}, {132, 127, 255, 255, 255}, {192}, {193, 5}};
        for (int[] code : wrong) {
            String name = "kind " + java.util.Arrays.toString(code);
            DUE.is(name, answer(2, Code.listOfCodes(code)), ChainPeers.BROKEN);
            DUE.is(name + " with two numbers", answer(0, Code.listOfCodes(code, new int[] {1, 1})), ChainPeers.BROKEN);
        }
        DUE.is("kind 0", answer(0, Code.listOfCodes(new int[] {128, 1, 1})), 0);
        DUE.is("kind 5", answer(2, Code.listOfCodes(new int[] {5})), 5);
    }

    private static void valuesThatCome() {
        DUE.sentence("the text of its bytes, the highest first: as they come");
        for (int i = 0; i < VALUES.length; i++) {
            Node x = new Node(VALUES[i], 9);
            x.open(0);
            Talk.give(x, 0, inPlace(1, RIGHT[i]));
            DUE.is("another chain or ours", x.peer(0, Talk.STATE), VALUES[i] == 1 ? Talk.READY : Talk.CLOSED);
            x.close(0);
            x.open(0);
            DUE.is("HELLO", Talk.give(x, 0, Code.listOfCodes(new int[] {128}, RIGHT[i], RIGHT[i])), 0);
            DUE.is("our chain, " + VALUES[i], x.peer(0, Talk.STATE), Talk.READY);
            DUE.is("BEST", x.peer(0, Talk.BEST), VALUES[i]);
        }
    }

    private static void valuesThatGo() {
        DUE.sentence("the text of its bytes, the highest first: as they go");
        for (int i = 0; i < VALUES.length; i++) {
            Node x = new Node(VALUES[i], 9);
            x.open(0);
            DUE.bytes("HELLO", Talk.sent(x, 0), Code.listOfCodes(new int[] {128}, RIGHT[i], new int[] {128}));
            Talk.give(x, 0, Code.hello(VALUES[i], 0));
            x.seal(1, 8, VALUES[i]);
            Talk.give(x, 0, Code.askBody(VALUES[i], x.block(1, 5)));
            DUE.bytes("BODY", Talk.sent(x, 0), Code.listOfCodes(new int[] {4}, RIGHT[i], Code.listOfCodes(RIGHT[i])));
            Talk.give(x, 0, Code.askHeaders(VALUES[i], 5, 5));
            DUE.bytes("HEADERS", Talk.sent(x, 0), Code.listOfCodes(new int[] {2}, RIGHT[i], new int[] {192}));
            if (VALUES[i] > 0) {
                Node y = new Node(1, 9);
                y.seal(VALUES[i], 8, -1);
                Talk.ready(y, 0, 1, 0);
                Talk.give(y, 0, Code.askHeaders(0, 1, 1));
                int[] header = Code.listOfCodes(Code.item(Code.GENESIS_HASH), new int[] {1}, RIGHT[i], new int[] {8, 128});
                DUE.bytes("a TIME", Talk.sent(y, 0), Code.listOfCodes(new int[] {2, 128}, Code.listOfCodes(header)));
            }
        }
    }
}
