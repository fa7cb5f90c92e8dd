import java.util.ArrayList;
import java.util.List;
import java.util.function.Supplier;
import java.util.function.ToIntFunction;

/**
 * 'A call that answers false or NONE changes nothing.' Of two nodes with the same past one is made such a call; from
 * then on both must answer the same, also as to what cannot be seen at once, as ids, DEADLINEs and what is sent.
 */
public final class RefusedCallsTest {
    private static final Due DUE = new Due();
    private static final int REFUSED = ChainPeers.NONE;
    private static final int[] NUMBERS = {
        Integer.MIN_VALUE, -2, -1, 0, 1, 2, 3, 4, 5, 8, 9, 19, 20, 50, 51, 55, 56, 57, Integer.MAX_VALUE
    };

    private static final class Call {
        final String name;
        final ToIntFunction<Node> made;

        Call(String name, ToIntFunction<Node> made) {
            this.name = name;
            this.made = made;
        }
    }

    public static void main(String[] args) {
        DUE.sentence("A call that answers false or NONE changes nothing");
        List<Call> calls = calls();
        List<Supplier<Node>> pasts = List.of(
            () -> new Node(3, 4), RefusedCallsTest::fourStates, RefusedCallsTest::lackingBodies, RefusedCallsTest::fullWire,
            RefusedCallsTest::twentyBlocks);
        // How many of the calls each past refuses: a call that is not refused any more would prove nothing.
        int[] due = {213, 208, 204, 201, 206};
        for (int i = 0; i < pasts.size(); i++) {
            String untouched = future(pasts.get(i).get());
            int refused = 0;
            for (Call call : calls) {
                Node x = pasts.get(i).get();
                if (call.made.applyAsInt(x) == REFUSED) {
                    refused++;
                    DUE.is("past " + i + ", after " + call.name + " all that follows", future(x), untouched);
                }
            }
            DUE.is("past " + i + ": calls that are refused", refused, due[i]);
        }
        DUE.end();
    }

    private static int answer(boolean done) {
        return done ? 1 : REFUSED;
    }

    private static List<Call> calls() {
        List<Call> calls = new ArrayList<>();
        for (int n : NUMBERS) {
            calls.add(new Call("open(" + n + ")", x -> answer(x.open(n))));
            calls.add(new Call("close(" + n + ")", x -> answer(x.close(n))));
            calls.add(new Call("put(" + n + ", ..)", x -> answer(x.put(n, 0x0102030405060708L))));
            calls.add(new Call("wire(" + n + ")", x -> x.wire(n)));
            calls.add(new Call("receive(" + n + ")", x -> x.receive(n)));
            calls.add(new Call("send(" + n + ")", x -> x.send(n)));
            calls.add(new Call("tick(" + n + ")", x -> x.tick(n)));
            calls.add(new Call("seal(" + n + ", 8, 1)", x -> x.seal(n, 8, 1)));
            calls.add(new Call("seal(900, " + n + ", 1)", x -> x.seal(900, n, 1)));
            calls.add(new Call("block(" + n + ", 0)", x -> x.block(n, 0)));
            calls.add(new Call("block(0, " + n + ")", x -> x.block(0, n)));
            calls.add(new Call("tx(" + n + ", 0)", x -> x.tx(n, 0)));
            calls.add(new Call("tx(1, " + n + ")", x -> x.tx(1, n)));
            calls.add(new Call("state(" + n + ")", x -> x.state(n)));
        }
        calls.add(new Call("seal of a known HASH", x -> x.seal(1, 8, 4)));
        return calls;
    }

    /** Peer 0 is READY with BACK 1, a request and a full outbox, 1 GREETING, 2 BANNED, 3 CLOSED with what it had before. */
    private static Node fourStates() {
        Node x = new Node(1, 3);
        Talk.ready(x, 3, 1, 9);
        x.work();
        Talk.give(x, 3, Code.headers(1, new int[] {5, 1, 1, 8, 0}));
        Talk.give(x, 3, Code.hello(1, 1));
        x.close(3);
        x.open(0);
        Talk.give(x, 0, Code.hello(1, 7));
        x.tick(2);
        x.work();
        Talk.give(x, 0, Code.headers(2, new int[] {5, 1, 1, 8, 0}));
        x.work();
        Talk.give(x, 0, Code.askHeaders(1, 0, 1));
        x.open(1);
        x.open(2);
        Talk.give(x, 2);
        Talk.lay(x, Code.bye());
        return x;
    }

    /** Block 1 waits for its body from peer 1, block 2 is our own, and a HELLO is on the wire. */
    private static Node lackingBodies() {
        Node x = new Node(1, 3);
        Talk.ready(x, 1, 1, 9);
        x.work();
        Talk.give(x, 1, Code.headers(1, Code.child(Code.GENESIS, 1, 8, 4)));
        x.work();
        x.seal(1, 7, 9);
        x.open(2);
        Talk.lay(x, Code.hello(2, 9));
        return x;
    }

    private static Node fullWire() {
        Node x = lackingBodies();
        Talk.lay(x, new int[56]);
        return x;
    }

    private static Node twentyBlocks() {
        Node x = new Node(1, 3);
        Talk.ready(x, 0, 1, 99);
        Talk.seal(x, 18);
        x.work();
        Talk.give(x, 0, Code.headers(1, Code.child(Talk.header(x, 18), 19, 8)));
        return x;
    }

    /** What a node answers to calls of every kind. */
    private static String future(Node x) {
        StringBuilder log = new StringBuilder();
        for (int p = 0; p < 4; p++) {
            for (int which = 0; which < 6; which++) {
                log.append(x.peer(p, which)).append(' ');
            }
        }
        int onWire = x.wire(-1);
        log.append("wire ").append(onWire);
        for (int k : new int[] {0, 1, 2, onWire - 1}) {
            log.append(' ').append(x.wire(k));
        }
        log.append(" work ").append(x.work());
        for (int p = 0; p < 4; p++) {
            for (int i = 0; i < 5; i++) {
                log.append(" send ").append(x.send(p)).append(' ').append(x.wire(1)).append(' ').append(x.wire(2));
            }
        }
        log.append(" open ").append(x.open(3));
        for (int i = 0; i < 5; i++) {
            log.append(" tick ").append(x.tick(1));
        }
        Talk.lay(x, Code.hello(1, 99));
        for (int p = 0; p < 4; p++) {
            log.append(" receive ").append(x.receive(p));
        }
        log.append(" work ").append(x.work());
        log.append(" seal ").append(x.seal(1000, 8, 3));
        return log.append(' ').append(Talk.view(x)).toString();
    }
}
