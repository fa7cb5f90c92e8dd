import java.util.ArrayList;
import java.util.Collections;
import java.util.List;
import java.util.Random;

/** All promises: runs of calls, always the same ones, on the program and on PlainNode side by side. */
public final class AgainstPlainNodeTest {
    private static final int RUNS = 6000;
    private static final int[] EDGES = {
        Integer.MIN_VALUE, -2, -1, 0, 1, 2, 3, 4, 5, 8, 9, 19, 20, 50, 51, 55, 56, Integer.MAX_VALUE
    };

    private static final int STATE = 0;
    private static final int PEER = 1;
    private static final int WIRE = 2;
    private static final int BLOCK = 3;
    private static final int TX = 4;

    private final Due due = new Due();
    private final Random random;
    private final Node x;
    private final PlainNode plain;
    private final String run;
    // Headers that strangers may tell of, known to the node or not, and the bodies that match them.
    private final List<int[]> headers = new ArrayList<>();
    private final List<int[]> bodies = new ArrayList<>();
    // How often strangers err in this run: 0 never, 1 seldom, 2 often. If they always did, all would be banned soon.
    private final int malice;
    // A run acts while more calls than this are left to the object; the rest are for looking at what has become of it.
    private final int callsToLook;

    private AgainstPlainNodeTest(int seed) {
        random = new Random(seed);
        malice = seed % 3;
        run = "run " + seed + ", ";
        callsToLook = 20 + random.nextInt(400);
        int chain = random.nextInt(4) == 0 ? number() : random.nextInt(3) - 1;
        int wait = random.nextInt(4) == 0 ? anyInt() : random.nextInt(12);
        x = new Node(chain, wait);
        plain = new PlainNode(chain, wait);
        headers.add(Code.GENESIS);
        bodies.add(new int[0]);
        for (int i = 0; i < 30; i++) {
            imagine(headers.get(random.nextInt(2 + seed % 8) == 0 ? random.nextInt(headers.size()) : headers.size() - 1));
        }
    }

    public static void main(String[] args) {
        int full = 0;
        int banned = 0;
        int highHead = 0;
        for (int seed = 0; seed < RUNS; seed++) {
            AgainstPlainNodeTest test = new AgainstPlainNodeTest(seed);
            test.play();
            full += test.plain.blocks.size() == 20 ? 1 : 0;
            highHead += test.plain.greatest(true).header[1] > 4 ? 1 : 0;
            for (PlainNode.Peer peer : test.plain.peers) {
                banned += peer.state == 3 ? 1 : 0;
            }
            if (test.due.wrong() > 0) {
                test.due.end();
            }
        }
        System.out.println(RUNS + " runs: " + full + " full, " + highHead + " with a long chain, " + banned + " banned");
        // Runs that never came far would prove nothing.
        if (full < RUNS / 20 || highHead < RUNS / 4 || banned < RUNS / 10) {
            System.exit(1);
        }
    }

    private boolean errs(int seldom) {
        return malice > 0 && random.nextInt(malice == 1 ? 6 * seldom : seldom) == 0;
    }

    private void play() {
        // Only a head start brings a run to 20 blocks with enough calls left.
        int start = random.nextInt(3) == 0 ? 10 + random.nextInt(12) : random.nextInt(2);
        for (int i = 0; i < start; i++) {
            int[] head = plain.greatest(true).header;
            seal(head[2] + 1, head[3], random.nextInt(4) - 1);
        }
        while (x.callsLeft() > callsToLook && due.wrong() == 0) {
            step();
            if (random.nextInt(3) == 0) {
                List<int[]> views = views();
                look(views.get(random.nextInt(views.size())));
            }
        }
        List<int[]> views = views();
        Collections.shuffle(views, random);
        for (int i = 0; i < views.size() && x.callsLeft() > 0; i++) {
            look(views.get(i));
        }
    }

    private void step() {
        int p = random.nextInt(20) == 0 ? anyInt() : random.nextInt(4);
        switch (random.nextInt(24)) {
            case 0:
            case 1:
                is("open(" + p + ")", x.open(p), plain.open(p));
                break;
            case 2:
                if (random.nextInt(6) == 0) {
                    is("close(" + p + ")", x.close(p), plain.close(p));
                }
                break;
            case 3:
                putAnything();
                break;
            case 4:
            case 5:
                is("send(" + p + ")", x.send(p), plain.send(p));
                break;
            case 6:
            case 7:
            case 8:
                is("work()", x.work(), plain.work());
                break;
            case 9:
                int n = errs(8) ? anyInt() : random.nextInt(3);
                is("tick(" + n + ")", x.tick(n), plain.tick(n));
                break;
            case 10:
                if (random.nextInt(4) == 0) {
                    sealAnything();
                }
                break;
            case 11:
                if (malice == 0) {
                    break;
                }
                is("receive(" + p + ")", x.receive(p), plain.receive(p));
                break;
            default:
                give(random.nextInt(4));
                break;
        }
    }

    private void is(String call, boolean got, boolean want) {
        is(call, got ? 1 : 0, want ? 1 : 0);
    }

    private void is(String call, int got, int want) {
        due.is(run + x.callsLeft() + " calls before its end: " + call, got, want);
    }

    private void putAnything() {
        int n = random.nextInt(4) == 0 ? anyInt() : random.nextInt(10);
        long bytes = random.nextLong();
        is("put(" + n + ", " + bytes + ")", x.put(n, bytes), plain.put(n, bytes));
    }

    private void sealAnything() {
        int[] head = plain.greatest(true).header;
        int time = random.nextInt(8) == 0 ? anyInt() : head[2] + random.nextInt(3);
        int weight = random.nextInt(8) == 0 ? anyInt() : head[3] + random.nextInt(2 * (head[3] / 4 + 2) + 1) - head[3] / 4 - 2;
        int tx = random.nextInt(3) == 0 ? anyInt() : random.nextInt(4) - 1;
        seal(time, weight, tx);
    }

    private void seal(int time, int weight, int tx) {
        int want = plain.seal(time, weight, tx);
        is("seal(" + time + ", " + weight + ", " + tx + ")", x.seal(time, weight, tx), want);
        if (want > 0) {
            headers.add(plain.blocks.get(want).header);
            bodies.add(tx < 0 ? new int[0] : new int[] {tx});
            imagine(headers.get(headers.size() - 1));
        }
    }

    /** Lays a message on the wire, mostly one that the peer has cause to send, and has it received. */
    private void give(int p) {
        int[] message = errs(10) ? anyMessage() : fitting(plain.peers[p]);
        if (errs(30)) {
            message = spoilt(message);
        }
        Talk.lay(x, message);
        plain.clear();
        for (int b : message) {
            plain.put(1, b);
        }
        is("receive(" + p + ")", x.receive(p), plain.receive(p));
    }

    private int[] fitting(PlainNode.Peer peer) {
        PlainNode.Request request = peer.request;
        if (peer.state == 1) {
            return Code.hello(plain.chain, random.nextInt(30));
        }
        if (request == null) {
            int known = random.nextInt(headers.size());
            return random.nextBoolean() ? Code.askHeaders(number(), random.nextInt(12), random.nextInt(4))
                : Code.askBody(number(), Code.hash(headers.get(known)));
        }
        int id = errs(20) ? number() : request.id;
        return request.forHeaders ? headersFrom(id, request.from) : Code.body(id, bodyFor(request.block.header));
    }

    private int[] bodyFor(int[] header) {
        for (int i = 0; i < headers.size(); i++) {
            if (Code.hash(headers.get(i)) == Code.hash(header) && !errs(12)) {
                return bodies.get(i);
            }
        }
        return numbers(random.nextInt(10));
    }

    private int[] headersFrom(int id, int from) {
        List<int[]> told = new ArrayList<>();
        int[] tip = tipAbove(from);
        int most = random.nextInt(20) == 0 ? 0 : 1 + random.nextInt(4);
        for (int[] header = tip; header != null; header = parentOf(header)) {
            if (header[1] >= from && header[1] < from + most) {
                told.add(0, errs(15) ? strange(header) : header);
            }
        }
        int[] message = Code.headers(id, told.toArray(new int[0][]));
        while (message.length > 56) {
            told.remove(told.size() - 1);
            message = Code.headers(id, told.toArray(new int[0][]));
        }
        return message;
    }

    private int[] tipAbove(int number) {
        int[] tip = headers.get(random.nextInt(headers.size()));
        for (int tries = 0; tries < 20 && tip[1] < number; tries++) {
            tip = headers.get(random.nextInt(headers.size()));
        }
        return tip;
    }

    private int[] parentOf(int[] header) {
        for (int[] other : headers) {
            if (Code.hash(other) == header[0]) {
                return other;
            }
        }
        return null;
    }

    private int[] strange(int[] header) {
        int[] strange = header.clone();
        int which = random.nextInt(5);
        strange[which] = random.nextBoolean() ? number() : Math.max(0, strange[which] + random.nextInt(5) - 2);
        return strange;
    }

    private void imagine(int[] parent) {
        int[] body = numbers(random.nextInt(3) == 0 ? random.nextInt(9) : 0);
        int room = parent[3] / 4 + 1;
        int weight = Math.min(99, Math.max(1, parent[3] + random.nextInt(2 * room + 1) - room));
        headers.add(Code.child(parent, parent[2] + 1 + random.nextInt(3), weight, body));
        bodies.add(body);
    }

    private int[] anyMessage() {
        switch (random.nextInt(8)) {
            case 0:
                return Code.hello(random.nextBoolean() ? plain.chain : number(), number());
            case 1:
            case 2:
                return Code.askHeaders(number(), random.nextBoolean() ? random.nextInt(12) : number(), number());
            case 3:
                return headersFrom(number(), random.nextInt(6));
            case 4:
            case 5:
                return Code.askBody(number(), Code.hash(headers.get(random.nextInt(headers.size()))));
            case 6:
                return Code.body(number(), numbers(random.nextInt(9)));
            default:
                return random.nextInt(4) == 0 ? Code.bye() : Code.askBody(number(), number());
        }
    }

    private int[] spoilt(int[] message) {
        int[] spoilt = java.util.Arrays.copyOf(message, Math.max(1, message.length + random.nextInt(3) - 1));
        if (random.nextBoolean()) {
            spoilt[random.nextInt(spoilt.length)] = random.nextInt(256);
        }
        return spoilt;
    }

    private int[] numbers(int n) {
        int[] numbers = new int[n];
        for (int i = 0; i < n; i++) {
            numbers[i] = number();
        }
        return numbers;
    }

    private int number() {
        int[] tops = {1, 3, 127, 128, 255, 256, 65535, 65536, 16777215, 16777216, Integer.MAX_VALUE};
        int top = tops[random.nextInt(tops.length)];
        return random.nextBoolean() ? top : random.nextInt(top);
    }

    private int anyInt() {
        return random.nextInt(3) == 0 ? random.nextInt() : EDGES[random.nextInt(EDGES.length)];
    }

    /** What there is to look at now, and its neighbours that are not there: a call with its two arguments. */
    private List<int[]> views() {
        List<int[]> views = new ArrayList<>();
        addViews(views, STATE, 5, 0);
        addViews(views, PEER, 4, 6);
        addViews(views, WIRE, plain.wire(-1), 0);
        addViews(views, BLOCK, plain.blocks.size(), 9);
        for (int k = 0; k < plain.blocks.size(); k++) {
            for (int i = -1; i <= Math.max(0, plain.block(k, 7)); i++) {
                views.add(new int[] {TX, k, i});
            }
        }
        return views;
    }

    private static void addViews(List<int[]> views, int call, int firsts, int seconds) {
        for (int first = -1; first <= firsts; first++) {
            for (int second = -1; second <= seconds; second++) {
                boolean isThere = first >= 0 && first < firsts && second >= 0 && second < seconds;
                // One neighbour of each is enough, or they would crowd out the rest.
                if (isThere || first == second || second == 0 || second == seconds && first == 0) {
                    views.add(new int[] {call, first, second});
                }
            }
        }
    }

    private void look(int[] view) {
        int a = view[1];
        int b = view[2];
        switch (view[0]) {
            case STATE:
                is("state(" + a + ")", x.state(a), plain.state(a));
                break;
            case PEER:
                is("peer(" + a + ", " + b + ")", x.peer(a, b), plain.peer(a, b));
                break;
            case WIRE:
                is("wire(" + a + ")", x.wire(a), plain.wire(a));
                break;
            case BLOCK:
                is("block(" + a + ", " + b + ")", x.block(a, b), plain.block(a, b));
                break;
            default:
                is("tx(" + a + ", " + b + ")", x.tx(a, b), plain.tx(a, b));
                break;
        }
    }
}
