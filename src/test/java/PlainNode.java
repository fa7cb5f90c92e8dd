import java.util.ArrayDeque;
import java.util.ArrayList;
import java.util.Arrays;
import java.util.Deque;
import java.util.List;

/**
 * The document told again without any care for speed or room: items are read as trees and written back,
 * and what the document defines is worked out anew whenever it is asked for.
 */
final class PlainNode {
    static final class Block {
        final int[] header;
        List<Integer> body;

        Block(int[] header) {
            this.header = header;
        }
    }

    static final class Request {
        final boolean forHeaders;
        final int id;
        final int from;
        final Block block;
        final int deadline;

        Request(boolean forHeaders, int id, int from, Block block, int deadline) {
            this.forHeaders = forHeaders;
            this.id = id;
            this.from = from;
            this.block = block;
            this.deadline = deadline;
        }
    }

    static final class Peer {
        int state;
        int score;
        int best;
        int back;
        Request request;
        final Deque<int[]> outbox = new ArrayDeque<>();

        void become(int newState) {
            state = newState;
            if (newState == 0 || newState == 3) {
                request = null;
                outbox.clear();
            }
        }

        void fault(int c) {
            score -= c;
            if (score < -3) {
                become(3);
            }
        }

        void merit() {
            if (score < 3) {
                score++;
            }
        }

        void post(int[] bytes) {
            if (outbox.size() < 4) {
                outbox.addLast(bytes);
            }
        }
    }

    private static final class NoItem extends Exception {
        private static final long serialVersionUID = 1;
    }

    final int chain;
    final int wait;
    final List<Block> blocks = new ArrayList<>();
    final Peer[] peers = {new Peer(), new Peer(), new Peer(), new Peer()};
    List<Integer> wire = new ArrayList<>();
    int time;
    int ids;

    PlainNode(int chain, int wait) {
        this.chain = chain < 0 ? 0 : chain;
        this.wait = wait < 1 ? 1 : wait > 30 ? 30 : wait;
        Block first = new Block(Code.GENESIS.clone());
        first.body = new ArrayList<>();
        blocks.add(first);
    }

    // Blocks

    Block blockOf(int hash) {
        for (Block block : blocks) {
            if (Code.hash(block.header) == hash) {
                return block;
            }
        }
        return null;
    }

    Block parentOf(Block block) {
        return blockOf(block.header[0]);
    }

    int total(Block block) {
        return block == blocks.get(0) ? 8 : block.header[3] + total(parentOf(block));
    }

    boolean imported(Block block) {
        return block == blocks.get(0) || block.body != null && imported(parentOf(block));
    }

    Block greatest(boolean importedOnly) {
        Block greatest = null;
        for (Block block : blocks) {
            if (importedOnly && !imported(block)) {
                continue;
            }
            if (greatest == null || total(block) > total(greatest)) {
                greatest = block;
            }
        }
        return greatest;
    }

    List<Block> chainOf(Block tip) {
        List<Block> chain = new ArrayList<>();
        for (Block block = tip; block != blocks.get(0); block = parentOf(block)) {
            chain.add(0, block);
        }
        chain.add(0, blocks.get(0));
        return chain;
    }

    boolean good(int[] header) {
        Block parent = blockOf(header[0]);
        if (parent == null || header[1] - 1 != parent.header[1] || header[2] <= parent.header[2]) {
            return false;
        }
        int w = parent.header[3];
        long apart = Math.abs((long) header[3] - w);
        return header[3] > 0 && header[3] < 100 && apart <= w / 4 + 1;
    }

    // Items

    private static final class Source {
        final int[] bytes;
        int at;

        Source(int[] bytes) {
            this.bytes = bytes;
        }

        /** A text as an int[], a list as an Object[]. */
        Object item() throws NoItem {
            int first = next();
            if (first < 128) {
                return new int[] {first};
            }
            if (first < 192) {
                return text(first - 128);
            }
            return items(first - 192);
        }

        private int[] text(int n) throws NoItem {
            if (n > 55) {
                throw new NoItem();
            }
            int[] text = new int[n];
            for (int i = 0; i < n; i++) {
                text[i] = next();
            }
            return text;
        }

        private Object[] items(int n) throws NoItem {
            if (n > 55) {
                throw new NoItem();
            }
            Source inner = new Source(text(n));
            List<Object> items = new ArrayList<>();
            while (inner.at < n) {
                items.add(inner.item());
            }
            return items.toArray();
        }

        private int next() throws NoItem {
            if (at >= bytes.length) {
                throw new NoItem();
            }
            return bytes[at++];
        }
    }

    private static int number(Object item) throws NoItem {
        if (!(item instanceof int[])) {
            throw new NoItem();
        }
        int[] text = (int[]) item;
        if (text.length > 4 || text.length > 0 && text[0] == 0) {
            throw new NoItem();
        }
        long value = 0;
        for (int b : text) {
            value = value << 8 | b;
        }
        if (value >= 1L << 31) {
            throw new NoItem();
        }
        return (int) value;
    }

    private static Object[] list(Object item) throws NoItem {
        if (!(item instanceof Object[])) {
            throw new NoItem();
        }
        return (Object[]) item;
    }

    private static int[] numbers(Object item) throws NoItem {
        Object[] items = list(item);
        int[] numbers = new int[items.length];
        for (int i = 0; i < items.length; i++) {
            numbers[i] = number(items[i]);
        }
        return numbers;
    }

    /** The items of the message that the bytes are, with their shapes looked at. */
    private static Object[] message(int[] bytes) throws NoItem {
        Source source = new Source(bytes);
        Object whole = source.item();
        if (source.at != bytes.length || !Arrays.equals(Code.item(whole), bytes)) {
            throw new NoItem();
        }
        Object[] items = list(whole);
        int[] lengths = {3, 4, 3, 3, 3, 1};
        if (items.length == 0) {
            throw new NoItem();
        }
        int kind = number(items[0]);
        if (kind > 5 || items.length != lengths[kind]) {
            throw new NoItem();
        }
        for (int i = 0; i < items.length; i++) {
            if (i < 2 || kind == 0 || kind == 1 || kind == 3) {
                number(items[i]);
            }
        }
        if (kind == 2) {
            for (Object header : list(items[2])) {
                if (numbers(header).length != 5) {
                    throw new NoItem();
                }
            }
        }
        if (kind == 4 && numbers(items[2]).length > 8) {
            throw new NoItem();
        }
        return items;
    }

    // The face

    boolean open(int p) {
        if (p < 0 || p > 3 || peers[p].state != 0) {
            return false;
        }
        peers[p].become(1);
        peers[p].best = 0;
        peers[p].back = 0;
        peers[p].post(Code.hello(chain, greatest(true).header[1]));
        return true;
    }

    boolean close(int p) {
        if (p < 0 || p > 3 || peers[p].state == 0 || peers[p].state == 3) {
            return false;
        }
        peers[p].become(0);
        return true;
    }

    boolean put(int n, long bytes) {
        if (n < 1 || n > 8 || wire.size() + n > 56) {
            return false;
        }
        String digits = String.format("%016x", bytes);
        for (int i = 8 - n; i < 8; i++) {
            wire.add(Integer.parseInt(digits.substring(2 * i, 2 * i + 2), 16));
        }
        return true;
    }

    void clear() {
        wire.clear();
    }

    int wire(int k) {
        if (k == -1) {
            return wire.size();
        }
        return k < 0 || k >= wire.size() ? -1 : wire.get(k);
    }

    int receive(int p) {
        if (p < 0 || p > 3 || peers[p].state == 0 || peers[p].state == 3) {
            return -1;
        }
        Peer peer = peers[p];
        try {
            Object[] items = message(wire.stream().mapToInt(Integer::intValue).toArray());
            int fault = peer.state == 1 ? greeting(peer, items) : ready(peer, items);
            if (fault > 0) {
                peer.fault(fault);
                return -3;
            }
            return number(items[0]);
        } catch (NoItem e) {
            peer.fault(4);
            return -2;
        }
    }

    private int greeting(Peer peer, Object[] items) throws NoItem {
        int kind = number(items[0]);
        if (kind == 0 && number(items[1]) == chain) {
            peer.become(2);
            peer.best = number(items[2]);
        } else if (kind == 0 || kind == 5) {
            peer.become(0);
        } else {
            return 2;
        }
        return 0;
    }

    private int ready(Peer peer, Object[] items) throws NoItem {
        switch (number(items[0])) {
            case 0:
                return 2;
            case 1:
                headersAsked(peer, number(items[1]), number(items[2]), number(items[3]));
                return 0;
            case 2:
                return headersCame(peer, number(items[1]), list(items[2]));
            case 3:
                Block block = blockOf(number(items[2]));
                if (block != null && block.body != null) {
                    peer.post(Code.body(number(items[1]), ints(block.body)));
                }
                return 0;
            case 4:
                return bodyCame(peer, number(items[1]), numbers(items[2]));
            default:
                peer.become(0);
                return 0;
        }
    }

    private void headersAsked(Peer peer, int id, int from, int count) {
        List<int[]> headers = new ArrayList<>();
        for (Block block : chainOf(greatest(true))) {
            if (block.header[1] >= from && headers.size() < count && headers.size() < 2) {
                headers.add(block.header);
            }
        }
        peer.post(Code.headers(id, headers.toArray(new int[0][])));
    }

    private int headersCame(Peer peer, int id, Object[] lists) throws NoItem {
        Request request = peer.request;
        if (request == null || !request.forHeaders || request.id != id) {
            return 1;
        }
        peer.request = null;
        if (lists.length == 0) {
            peer.best = request.from - 1;
            return 0;
        }
        int[] first = numbers(lists[0]);
        if (first[1] != request.from) {
            return 2;
        }
        if (blockOf(Code.hash(first)) == null && blockOf(first[0]) == null) {
            peer.back++;
            return 0;
        }
        for (int i = 0; i < lists.length; i++) {
            int[] header = numbers(lists[i]);
            if (blockOf(Code.hash(header)) == null) {
                if (!good(header) || i > 0 && header[0] != Code.hash(numbers(lists[i - 1]))) {
                    return 2;
                }
                if (blocks.size() == 20) {
                    break;
                }
                blocks.add(new Block(header));
            }
        }
        peer.back = 0;
        peer.merit();
        return 0;
    }

    private int bodyCame(Peer peer, int id, int[] numbers) {
        Request request = peer.request;
        if (request == null || request.forHeaders || request.id != id) {
            return 1;
        }
        peer.request = null;
        if (Code.root(numbers) != request.block.header[4]) {
            return 2;
        }
        request.block.body = new ArrayList<>();
        for (int number : numbers) {
            request.block.body.add(number);
        }
        peer.merit();
        return 0;
    }

    private static int[] ints(List<Integer> numbers) {
        return numbers.stream().mapToInt(Integer::intValue).toArray();
    }

    int send(int p) {
        if (p < 0 || p > 3 || peers[p].outbox.isEmpty()) {
            return -1;
        }
        wire = new ArrayList<>();
        for (int b : peers[p].outbox.removeFirst()) {
            wire.add(b);
        }
        return wire.size();
    }

    int work() {
        int asked = 0;
        for (Peer peer : peers) {
            if (peer.state != 2 || peer.request != null) {
                continue;
            }
            Block lacking = lacking();
            int from = Math.max(1, greatest(false).header[1] + 1 - peer.back);
            if (lacking != null) {
                ids++;
                peer.request = new Request(false, ids, 0, lacking, time + wait);
                peer.post(Code.askBody(ids, Code.hash(lacking.header)));
                asked++;
            } else if (blocks.size() < 20 && peer.best >= from) {
                ids++;
                peer.request = new Request(true, ids, from, null, time + wait);
                peer.post(Code.askHeaders(ids, from, 2));
                asked++;
            }
        }
        return asked;
    }

    private Block lacking() {
        for (Block block : chainOf(greatest(false))) {
            boolean asked = false;
            for (Peer peer : peers) {
                asked |= peer.request != null && peer.request.block == block;
            }
            if (block.body == null && !asked) {
                return block;
            }
        }
        return null;
    }

    int tick(int n) {
        if (n < 0 || n > 50) {
            return -1;
        }
        int lost = 0;
        for (int k = 0; k < n; k++) {
            time++;
            for (Peer peer : peers) {
                if (peer.request != null && peer.request.deadline < time) {
                    peer.request = null;
                    peer.fault(1);
                    lost++;
                }
            }
        }
        return lost;
    }

    int seal(int time, int weight, int tx) {
        int[] body = tx < 0 ? new int[0] : new int[] {tx};
        int[] header = Code.child(greatest(true).header, time, weight, body);
        if (!good(header) || blockOf(Code.hash(header)) != null || blocks.size() == 20) {
            return -1;
        }
        Block block = new Block(header);
        block.body = new ArrayList<>();
        for (int number : body) {
            block.body.add(number);
        }
        blocks.add(block);
        return blocks.size() - 1;
    }

    int peer(int p, int which) {
        if (p < 0 || p > 3 || which < 0 || which > 5) {
            return 0;
        }
        Peer peer = peers[p];
        int id = peer.request == null ? 0 : peer.request.id;
        return new int[] {peer.state, peer.score, peer.best, peer.back, id, peer.outbox.size()}[which];
    }

    int block(int k, int which) {
        if (k < 0 || k >= blocks.size() || which < 0 || which > 8) {
            return -1;
        }
        Block block = blocks.get(k);
        if (which < 5) {
            return block.header[which];
        }
        int bodySize = block.body == null ? -1 : block.body.size();
        return new int[] {Code.hash(block.header), total(block), bodySize, imported(block) ? 1 : 0}[which - 5];
    }

    int tx(int k, int i) {
        if (k < 0 || k >= blocks.size() || blocks.get(k).body == null || i < 0 || i >= blocks.get(k).body.size()) {
            return -1;
        }
        return blocks.get(k).body.get(i);
    }

    int state(int which) {
        switch (which) {
            case 0:
                return blocks.size();
            case 1:
                return blocks.indexOf(greatest(false));
            case 2:
                return blocks.indexOf(greatest(true));
            case 3:
                return time;
            case 4:
                return ids;
            default:
                return -1;
        }
    }
}
