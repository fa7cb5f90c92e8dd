/**
 * A node that fetches a chain of blocks from up to four strangers. The words in capitals in the comments
 * are those of the document.
 */
public final class ChainPeers {
    public static final int NONE = -1;
    public static final int BROKEN = -2;
    public static final int ODD = -3;

    private static final int HELLO = 0;
    private static final int ASK_HEADERS = 1;
    private static final int HEADERS = 2;
    private static final int ASK_BODY = 3;
    private static final int BODY = 4;
    private static final int BYE = 5;

    private static final int PARENT = 0;
    private static final int NUMBER = 1;
    private static final int TIME = 2;
    private static final int WEIGHT = 3;
    private static final int ROOT = 4;
    private static final int HEADER_NUMBERS = 5;

    private static final int CLOSED = 0;
    private static final int GREETING = 1;
    private static final int READY = 2;
    private static final int BANNED = 3;

    private static final int PEERS = 4;
    private static final int LONGEST_OUTBOX = 4;
    private static final int LOWEST_SCORE = -3;
    private static final int HIGHEST_SCORE = 3;
    private static final int LONGEST_WAIT = 30;
    private static final int MOST_TICKS = 50;
    private static final int HEADERS_AT_ONCE = 2;
    private static final int MOST_BLOCKS = 20;
    private static final int MOST_IN_BODY = 8;
    private static final int HEAVIEST_WEIGHT = 99;

    private static final int LARGEST_NUMBER = 0x7fffffff;
    private static final int LONGEST_WIRE = 56;
    private static final int LONGEST_ITEM = 55;
    private static final int TEXT_CODE = 128;
    private static final int LIST_CODE = 192;
    private static final int LONGEST_NUMBER = 4;
    // 55 bytes less a kind, an id and the list's own byte leave 52, and no header has a code below 6 bytes.
    private static final int MOST_HEADERS = 8;

    private static final int NO_FAULT = 0;
    private static final int UNASKED = 1;
    private static final int LATE = 1;
    private static final int WRONG = 2;
    private static final int NO_MESSAGE = 4;

    private final int chain;
    private final int wait;
    private final Bytes wire = new Bytes();
    private final Bytes draft = new Bytes();
    private final Message message = new Message();
    private final Blocks blocks = new Blocks();
    private final Peer[] peers = new Peer[PEERS];
    // Rows that seal fills anew each time.
    private final int[] ownHeader = new int[HEADER_NUMBERS];
    private final int[] ownBody = new int[1];
    private int time;
    private int latestId;

    public ChainPeers(int chain, int wait) {
        this.chain = Math.max(chain, 0);
        this.wait = Math.min(Math.max(wait, 1), LONGEST_WAIT);
        for (int p = 0; p < PEERS; p++) {
            peers[p] = new Peer();
        }
    }

    public boolean open(int p) {
        if (!isPeer(p) || peers[p].state != CLOSED) {
            return false;
        }
        peers[p].startGreeting();
        sendHello(peers[p]);
        return true;
    }

    public boolean close(int p) {
        if (!isPeer(p) || !peers[p].isTalking()) {
            return false;
        }
        peers[p].leave(CLOSED);
        return true;
    }

    public boolean put(int n, long bytes) {
        if (n < 1 || n > 8 || wire.size + n > LONGEST_WIRE) {
            return false;
        }
        for (int k = n - 1; k >= 0; k--) {
            wire.add((int) (bytes >>> (8 * k)) & 255);
        }
        return true;
    }

    public void clear() {
        wire.size = 0;
    }

    public int wire(int k) {
        return k == -1 ? wire.size : wire.at(k);
    }

    public int receive(int p) {
        if (!isPeer(p) || !peers[p].isTalking()) {
            return NONE;
        }
        Peer peer = peers[p];
        if (!message.parse(wire)) {
            peer.fault(NO_MESSAGE);
            return BROKEN;
        }
        int fault = peer.state == GREETING ? readGreeting(peer) : readReady(peer);
        if (fault == NO_FAULT) {
            return message.kind;
        }
        peer.fault(fault);
        return ODD;
    }

    public int send(int p) {
        if (!isPeer(p) || peers[p].waiting == 0) {
            return NONE;
        }
        peers[p].moveFirstTo(wire);
        return wire.size;
    }

    public int work() {
        int asked = 0;
        for (int p = 0; p < PEERS; p++) {
            if (peers[p].isIdle() && ask(peers[p])) {
                asked++;
            }
        }
        return asked;
    }

    public int tick(int n) {
        if (n < 0 || n > MOST_TICKS) {
            return NONE;
        }
        int lost = 0;
        for (int k = 0; k < n; k++) {
            time++;
            lost += loseLateRequests();
        }
        return lost;
    }

    public int seal(int time, int weight, int tx) {
        int head = blocks.head();
        int bodySize = tx < 0 ? 0 : 1;
        ownBody[0] = tx;
        ownHeader[PARENT] = blocks.hashes[head];
        ownHeader[NUMBER] = blocks.numberOf(head) + 1;
        ownHeader[TIME] = time;
        ownHeader[WEIGHT] = weight;
        ownHeader[ROOT] = rootOf(ownBody, bodySize);
        if (!blocks.isGood(ownHeader) || blocks.isKnown(hashOf(ownHeader)) || blocks.isFull()) {
            return NONE;
        }
        int k = blocks.count;
        blocks.append(ownHeader);
        blocks.setBody(k, ownBody, bodySize);
        return k;
    }

    public int peer(int p, int which) {
        return isPeer(p) ? peers[p].look(which) : 0;
    }

    public int block(int k, int which) {
        return blocks.look(k, which);
    }

    public int tx(int k, int i) {
        return blocks.hasInBody(k, i) ? blocks.bodies[k][i] : NONE;
    }

    public int state(int which) {
        switch (which) {
            case 0:
                return blocks.count;
            case 1:
                return blocks.heaviest();
            case 2:
                return blocks.head();
            case 3:
                return time;
            case 4:
                return latestId;
            default:
                return NONE;
        }
    }

    private static boolean isPeer(int p) {
        return p >= 0 && p < PEERS;
    }

    private static int hashOf(int[] header) {
        return mix(7, header, HEADER_NUMBERS);
    }

    private static int rootOf(int[] numbers, int n) {
        return mix(n, numbers, n);
    }

    /** Begins with start and mixes it with the first n numbers; int arithmetic, with its wrap-around. */
    private static int mix(int start, int[] numbers, int n) {
        int mixed = start;
        for (int i = 0; i < n && i < numbers.length; i++) {
            int t = (mixed ^ numbers[i]) * 16777619;
            mixed = (t ^ (t >>> 15)) & LARGEST_NUMBER;
        }
        return mixed;
    }

    // The methods that read a message answer the size of its FAULT.

    private int readGreeting(Peer peer) {
        switch (message.kind) {
            case HELLO:
                greet(peer);
                return NO_FAULT;
            case BYE:
                peer.leave(CLOSED);
                return NO_FAULT;
            default:
                return WRONG;
        }
    }

    private void greet(Peer peer) {
        if (message.chain == chain) {
            peer.state = READY;
            peer.best = message.best;
        } else {
            peer.leave(CLOSED);
        }
    }

    private int readReady(Peer peer) {
        switch (message.kind) {
            case ASK_HEADERS:
                sendHeaders(peer);
                return NO_FAULT;
            case HEADERS:
                return readHeaders(peer);
            case ASK_BODY:
                sendBody(peer);
                return NO_FAULT;
            case BODY:
                return readBody(peer);
            case BYE:
                peer.leave(CLOSED);
                return NO_FAULT;
            default:
                return WRONG;
        }
    }

    private int readHeaders(Peer peer) {
        if (!peer.wasAsked(ASK_HEADERS, message.id)) {
            return UNASKED;
        }
        int from = peer.requestTarget;
        peer.dropRequest();
        if (message.listed == 0) {
            peer.best = from - 1;
            return NO_FAULT;
        }
        int[] first = message.headers[0];
        if (first[NUMBER] != from) {
            return WRONG;
        }
        if (!blocks.isKnown(hashOf(first)) && !blocks.isKnown(first[PARENT])) {
            peer.back++;
            return NO_FAULT;
        }
        if (!takeHeaders()) {
            return WRONG;
        }
        peer.back = 0;
        peer.merit();
        return NO_FAULT;
    }

    private boolean takeHeaders() {
        for (int i = 0; i < message.listed; i++) {
            int[] header = message.headers[i];
            if (blocks.isKnown(hashOf(header))) {
                continue;
            }
            boolean linked = i == 0 || header[PARENT] == hashOf(message.headers[i - 1]);
            if (!linked || !blocks.isGood(header)) {
                return false;
            }
            if (blocks.isFull()) {
                return true;
            }
            blocks.append(header);
        }
        return true;
    }

    private int readBody(Peer peer) {
        if (!peer.wasAsked(ASK_BODY, message.id)) {
            return UNASKED;
        }
        int k = peer.requestTarget;
        peer.dropRequest();
        if (rootOf(message.body, message.listed) != blocks.headers[k][ROOT]) {
            return WRONG;
        }
        blocks.setBody(k, message.body, message.listed);
        peer.merit();
        return NO_FAULT;
    }

    private void sendHello(Peer peer) {
        draft.begin(HELLO);
        draft.addNumber(chain);
        draft.addNumber(blocks.numberOf(blocks.head()));
        sendDraft(peer);
    }

    private void sendHeaders(Peer peer) {
        draft.begin(HEADERS);
        draft.addNumber(message.id);
        int list = draft.beginList();
        int head = blocks.head();
        int most = Math.min(message.count, HEADERS_AT_ONCE);
        // Counting how many are left up to HEAD keeps from + i from overflowing.
        int left = blocks.numberOf(head) - message.from + 1;
        for (int i = 0; i < most && i < left; i++) {
            int k = blocks.ancestor(head, message.from + i);
            draft.addHeader(blocks.headers[k]);
        }
        draft.endList(list);
        sendDraft(peer);
    }

    private void sendBody(Peer peer) {
        int k = blocks.find(message.hash);
        if (k == NONE || !blocks.hasBody(k)) {
            return;
        }
        draft.begin(BODY);
        draft.addNumber(message.id);
        int list = draft.beginList();
        for (int i = 0; i < blocks.bodySizes[k]; i++) {
            draft.addNumber(blocks.bodies[k][i]);
        }
        draft.endList(list);
        sendDraft(peer);
    }

    private void sendDraft(Peer peer) {
        draft.endList(0);
        peer.addToOutbox(draft);
    }

    /** Answers whether there was something to ask the peer for. */
    private boolean ask(Peer peer) {
        int wanted = wantedBlock();
        if (wanted != NONE) {
            askForBody(peer, wanted);
            return true;
        }
        int from = Math.max(blocks.numberOf(blocks.heaviest()) + 1 - peer.back, 1);
        if (blocks.isFull() || peer.best < from) {
            return false;
        }
        askForHeaders(peer, from);
        return true;
    }

    private void askForBody(Peer peer, int k) {
        latestId++;
        peer.setRequest(ASK_BODY, latestId, k, time + wait);
        draft.begin(ASK_BODY);
        draft.addNumber(latestId);
        draft.addNumber(blocks.hashes[k]);
        sendDraft(peer);
    }

    private void askForHeaders(Peer peer, int from) {
        latestId++;
        peer.setRequest(ASK_HEADERS, latestId, from, time + wait);
        draft.begin(ASK_HEADERS);
        draft.addNumber(latestId);
        draft.addNumber(from);
        draft.addNumber(HEADERS_AT_ONCE);
        sendDraft(peer);
    }

    /** The block of least NUMBER in the CHAIN of HEAVIEST that lacks a body nobody is asked for. */
    private int wantedBlock() {
        int wanted = NONE;
        int k = blocks.heaviest();
        for (int number = blocks.numberOf(k); number > 0; number--) {
            if (!blocks.hasBody(k) && !isBodyAsked(k)) {
                wanted = k;
            }
            k = blocks.parents[k];
        }
        return wanted;
    }

    private boolean isBodyAsked(int k) {
        for (int p = 0; p < PEERS; p++) {
            if (peers[p].isAskedForBody(k)) {
                return true;
            }
        }
        return false;
    }

    private int loseLateRequests() {
        int lost = 0;
        for (int p = 0; p < PEERS; p++) {
            if (peers[p].isLate(time)) {
                peers[p].dropRequest();
                peers[p].fault(LATE);
                lost++;
            }
        }
        return lost;
    }

    /** A row of bytes 0 .. 255: the wire, a message in an outbox, or one that is being written. */
    private static final class Bytes {
        private final int[] row = new int[LONGEST_WIRE];
        private int size;

        private int at(int k) {
            return k >= 0 && k < size ? row[k] : NONE;
        }

        private void add(int value) {
            if (size < LONGEST_WIRE) {
                row[size] = value;
                size++;
            }
        }

        private void copyFrom(Bytes other) {
            System.arraycopy(other.row, 0, row, 0, LONGEST_WIRE);
            size = other.size;
        }

        private void begin(int kind) {
            size = 0;
            beginList();
            addNumber(kind);
        }

        /** Answers where the list stands, for endList, which knows its length. */
        private int beginList() {
            int start = size;
            add(LIST_CODE);
            return start;
        }

        private void endList(int start) {
            if (start >= 0 && start < size) {
                row[start] = LIST_CODE + size - start - 1;
            }
        }

        private void addHeader(int[] header) {
            int list = beginList();
            for (int i = 0; i < HEADER_NUMBERS; i++) {
                addNumber(header[i]);
            }
            endList(list);
        }

        private void addNumber(int number) {
            int length = codeLength(number) - 1;
            if (length == 0) {
                add(number == 0 ? TEXT_CODE : number);
                return;
            }
            add(TEXT_CODE + length);
            for (int k = length - 1; k >= 0; k--) {
                add((number >>> (8 * k)) & 255);
            }
        }

        /** How many bytes the code of a number has. */
        private static int codeLength(int number) {
            if (number < 1 << 7) {
                return 1;
            }
            if (number < 1 << 8) {
                return 2;
            }
            if (number < 1 << 16) {
                return 3;
            }
            return number < 1 << 24 ? 4 : 5;
        }
    }

    /** What a row of bytes says, if it is exactly the code of a message. */
    private static final class Message {
        private int kind;
        private int chain;
        private int best;
        private int id;
        private int from;
        private int count;
        private int hash;
        private int listed;
        private final int[][] headers = new int[MOST_HEADERS][HEADER_NUMBERS];
        private final int[] body = new int[MOST_IN_BODY];
        private final Bytes source = new Bytes();
        private int at;

        /** Answers whether the bytes are the code of a message; if not, the fields mean nothing. */
        private boolean parse(Bytes bytes) {
            source.copyFrom(bytes);
            at = 0;
            int end = enterList(source.size);
            if (end != source.size) {
                return false;
            }
            kind = nextNumber(end);
            return parseFields(end) && at == end;
        }

        private boolean parseFields(int end) {
            switch (kind) {
                case HELLO:
                    chain = nextNumber(end);
                    best = nextNumber(end);
                    return chain != NONE && best != NONE;
                case ASK_HEADERS:
                    id = nextNumber(end);
                    from = nextNumber(end);
                    count = nextNumber(end);
                    return id != NONE && from != NONE && count != NONE;
                case HEADERS:
                    id = nextNumber(end);
                    return id != NONE && parseHeaders(end);
                case ASK_BODY:
                    id = nextNumber(end);
                    hash = nextNumber(end);
                    return id != NONE && hash != NONE;
                case BODY:
                    id = nextNumber(end);
                    return id != NONE && parseBody(end);
                case BYE:
                    return true;
                default:
                    return false;
            }
        }

        private boolean parseHeaders(int end) {
            int listEnd = enterList(end);
            for (listed = 0; listed < MOST_HEADERS && at < listEnd; listed++) {
                if (!parseHeader(headers[listed], listEnd)) {
                    return false;
                }
            }
            return at == listEnd;
        }

        private boolean parseHeader(int[] header, int end) {
            int headerEnd = enterList(end);
            for (int i = 0; i < HEADER_NUMBERS; i++) {
                header[i] = nextNumber(headerEnd);
                if (header[i] == NONE) {
                    return false;
                }
            }
            return at == headerEnd;
        }

        private boolean parseBody(int end) {
            int listEnd = enterList(end);
            for (listed = 0; listed < MOST_IN_BODY && at < listEnd; listed++) {
                body[listed] = nextNumber(listEnd);
                if (body[listed] == NONE) {
                    return false;
                }
            }
            return at == listEnd;
        }

        /** Steps behind the first byte of a list that ends at or before end: where it ends, or NONE. */
        private int enterList(int end) {
            int length = source.at(at) - LIST_CODE;
            if (length < 0 || length > LONGEST_ITEM || at + length >= end) {
                return NONE;
            }
            at++;
            return at + length;
        }

        /** Steps behind a number that ends at or before end: its value, or NONE. */
        private int nextNumber(int end) {
            int first = source.at(at);
            if (first > 0 && first < TEXT_CODE && at < end) {
                at++;
                return first;
            }
            int length = first - TEXT_CODE;
            if (length < 0 || length > LONGEST_NUMBER || at + length >= end) {
                return NONE;
            }
            long value = 0;
            for (int k = 1; k <= length; k++) {
                value = value * 256 + source.at(at + k);
            }
            // A code longer than it must be has a 0 byte at its front, or stands for a single byte below 128.
            if (value > LARGEST_NUMBER || Bytes.codeLength((int) value) != 1 + length) {
                return NONE;
            }
            at += 1 + length;
            return (int) value;
        }
    }

    /** The known blocks, in the order in which they became known: a parent stands before its children. */
    private static final class Blocks {
        private static final int NO_BODY = -1;

        private final int[][] headers = new int[MOST_BLOCKS][HEADER_NUMBERS];
        private final int[] hashes = new int[MOST_BLOCKS];
        private final int[] parents = new int[MOST_BLOCKS];
        private final int[] totals = new int[MOST_BLOCKS];
        private final int[][] bodies = new int[MOST_BLOCKS][MOST_IN_BODY];
        private final int[] bodySizes = new int[MOST_BLOCKS];
        private final boolean[] imported = new boolean[MOST_BLOCKS];
        private int count;

        private Blocks() {
            headers[0][WEIGHT] = 8;
            hashes[0] = hashOf(headers[0]);
            totals[0] = 8;
            imported[0] = true;
            count = 1;
        }

        private boolean isBlock(int k) {
            return k >= 0 && k < count;
        }

        private boolean isFull() {
            return count >= MOST_BLOCKS;
        }

        private int numberOf(int k) {
            return headers[k][NUMBER];
        }

        private boolean hasBody(int k) {
            return bodySizes[k] != NO_BODY;
        }

        private boolean hasInBody(int k, int i) {
            return isBlock(k) && i >= 0 && i < bodySizes[k];
        }

        /** The block of a hash, or NONE. */
        private int find(int hash) {
            for (int k = 0; k < count; k++) {
                if (hashes[k] == hash) {
                    return k;
                }
            }
            return NONE;
        }

        private boolean isKnown(int hash) {
            return find(hash) != NONE;
        }

        private boolean isGood(int[] header) {
            int parent = find(header[PARENT]);
            if (parent == NONE) {
                return false;
            }
            int weight = header[WEIGHT];
            int before = headers[parent][WEIGHT];
            return header[NUMBER] == numberOf(parent) + 1
                && header[TIME] > headers[parent][TIME]
                && weight >= 1 && weight <= HEAVIEST_WEIGHT
                && Math.abs(weight - before) <= before / 4 + 1;
        }

        /** Adds a GOOD header as a block without a body. */
        private void append(int[] header) {
            int parent = find(header[PARENT]);
            if (isFull() || parent == NONE) {
                return;
            }
            System.arraycopy(header, 0, headers[count], 0, HEADER_NUMBERS);
            hashes[count] = hashOf(header);
            parents[count] = parent;
            totals[count] = totals[parent] + header[WEIGHT];
            bodySizes[count] = NO_BODY;
            count++;
        }

        private void setBody(int k, int[] numbers, int n) {
            System.arraycopy(numbers, 0, bodies[k], 0, n);
            bodySizes[k] = n;
            // Blocks behind this one may have had their bodies before; each stands after its parent, so one pass does.
            for (int child = k; child < count; child++) {
                imported[child] = hasBody(child) && imported[parents[child]];
            }
        }

        private int heaviest() {
            int heaviest = 0;
            for (int k = 1; k < count; k++) {
                if (totals[k] > totals[heaviest]) {
                    heaviest = k;
                }
            }
            return heaviest;
        }

        private int head() {
            int head = 0;
            for (int k = 1; k < count; k++) {
                if (imported[k] && totals[k] > totals[head]) {
                    head = k;
                }
            }
            return head;
        }

        /** The block of that NUMBER in the CHAIN of block k. */
        private int ancestor(int k, int number) {
            int ancestor = k;
            for (int left = numberOf(k) - number; left > 0; left--) {
                ancestor = parents[ancestor];
            }
            return ancestor;
        }

        private int look(int k, int which) {
            if (!isBlock(k)) {
                return NONE;
            }
            switch (which) {
                case PARENT:
                case NUMBER:
                case TIME:
                case WEIGHT:
                case ROOT:
                    return headers[k][which];
                case 5:
                    return hashes[k];
                case 6:
                    return totals[k];
                case 7:
                    return bodySizes[k];
                case 8:
                    return imported[k] ? 1 : 0;
                default:
                    return NONE;
            }
        }
    }

    /** What is known of one peer; its request is there while its id is above 0. */
    private static final class Peer {
        private int state = CLOSED;
        private int score;
        private int best;
        private int back;
        private int requestKind;
        private int requestId;
        private int requestTarget;
        private int deadline;
        private final Bytes[] outbox = new Bytes[LONGEST_OUTBOX];
        private int waiting;

        private Peer() {
            for (int i = 0; i < LONGEST_OUTBOX; i++) {
                outbox[i] = new Bytes();
            }
        }

        private boolean isTalking() {
            return state == GREETING || state == READY;
        }

        private boolean isIdle() {
            return state == READY && requestId == 0;
        }

        private void startGreeting() {
            state = GREETING;
            best = 0;
            back = 0;
        }

        /** Becomes CLOSED or BANNED. */
        private void leave(int newState) {
            state = newState;
            waiting = 0;
            dropRequest();
        }

        private void fault(int size) {
            score -= size;
            if (score < LOWEST_SCORE) {
                leave(BANNED);
            }
        }

        private void merit() {
            score = Math.min(score + 1, HIGHEST_SCORE);
        }

        /** The target is the number that headers are asked from, or the block whose body is asked for. */
        private void setRequest(int kind, int id, int target, int lastTime) {
            requestKind = kind;
            requestId = id;
            requestTarget = target;
            deadline = lastTime;
        }

        private void dropRequest() {
            requestId = 0;
        }

        private boolean wasAsked(int kind, int id) {
            return requestId != 0 && requestId == id && requestKind == kind;
        }

        private boolean isAskedForBody(int k) {
            return requestId != 0 && requestKind == ASK_BODY && requestTarget == k;
        }

        private boolean isLate(int time) {
            return requestId != 0 && deadline < time;
        }

        private void addToOutbox(Bytes bytes) {
            if (waiting < LONGEST_OUTBOX) {
                outbox[waiting].copyFrom(bytes);
                waiting++;
            }
        }

        private void moveFirstTo(Bytes target) {
            Bytes first = outbox[0];
            target.copyFrom(first);
            for (int i = 1; i < LONGEST_OUTBOX; i++) {
                outbox[i - 1] = outbox[i];
            }
            // The row that came free is used again for a later message.
            outbox[LONGEST_OUTBOX - 1] = first;
            waiting--;
        }

        private int look(int which) {
            switch (which) {
                case 0:
                    return state;
                case 1:
                    return score;
                case 2:
                    return best;
                case 3:
                    return back;
                case 4:
                    return requestId;
                case 5:
                    return waiting;
                default:
                    return 0;
            }
        }
    }
}
