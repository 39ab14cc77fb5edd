/**
 * A works of a table of words that replicas keep alike, in which the network itself puts requests in order.
 * README.md tells how to use it. Words in capitals are terms of the document.
 */
public final class OrderedWorks {
    public static final int NONE = -1;

    private static final int CLIENTS = 4;
    private static final int KEYS = 8;
    private static final int LOG_ROOM = 100;
    private static final int AIR_ROOM = 200;
    /** A power of two, so that a mask keeps every index inside the ring. */
    private static final int RING_ROOM = 256;
    private static final int HELD_MOST = 8;
    /** FOUND holds one more than STAMPED may. */
    private static final int HELD_ROOM = HELD_MOST + 1;
    /** A power of two, as RING_ROOM. */
    private static final int PLACES = 64;
    private static final int REMEMBERED = 200;

    private static final int GET = 0;
    private static final int PUT = 1;
    private static final int ADD = 2;

    private static final int NORMAL = 0;
    private static final int GAP = 1;
    private static final int CHANGE = 2;

    private static final int STAMPED = 0;
    private static final int LOOKUP = 1;
    private static final int FOUND = 2;
    private static final int GAP_COMMIT = 3;
    private static final int GAP_REPLY = 4;
    private static final int SYNC = 5;
    private static final int SYNC_REPLY = 6;
    private static final int POINT = 7;
    private static final int TURN = 8;
    private static final int TURNED = 9;
    private static final int START = 10;
    private static final int REPLY = 11;
    private static final int PING = 12;

    private static final int SEQUENCER_BYTE = 255;
    private static final int CLIENT_BYTE = 16;
    private static final int BLOCK = 512;
    private static final int SUM_SIZE = 4;
    private static final int IMAGE_SIZE = 5 * BLOCK;
    private static final int ENTRIES_OF_BLOCK = 25;
    private static final int TAPE_ROOM = 1500;
    /** Three bytes, two views, BASE, a log's length, and six numbers for each of its requests. */
    private static final int TOLD_ROOM = 3 + 4 + 2 + 6 * LOG_ROOM;

    private static final int ENDS_EARLY = 1;
    private static final int CANNOT_BE = 2;
    private static final int BAD_NUMBER = 3;
    private static final int LONG_LOG = 4;
    private static final int OTHER_SUM = 5;
    private static final int BYTES_BEHIND = 6;

    private static final int FLOW_MOST = 40;
    private static final int TICKS_MOST = 40;
    private static final int CALM_MOST = 20;

    /** T of the document. */
    private final int patience;
    private final Net net;
    private final Table table;
    private final Replica[] replicas;
    private final Client[] clients;
    private boolean sequencerUp;
    private int session;
    private int stamps;
    private int failedAt;
    /** A ring of the latest that were accepted; acceptedTotal tells where the next one goes. */
    private final Place[] accepted;
    private int acceptedTotal;
    private final Bytes output;
    private final Bytes tape;
    private final Reader reader;

    public OrderedWorks(int n, int t) {
        patience = 3 + Math.floorMod(t, 6);
        net = new Net(3 + 2 * Math.floorMod(n, 3));
        table = new Table();
        replicas = new Replica[net.replicas];
        for (int i = 0; i < replicas.length; i++) {
            replicas[i] = new Replica(i, net, table);
        }
        clients = new Client[CLIENTS];
        for (int i = 0; i < clients.length; i++) {
            clients[i] = new Client();
        }
        sequencerUp = true;
        session = 1;
        accepted = new Place[REMEMBERED];
        for (int i = 0; i < accepted.length; i++) {
            accepted[i] = new Place();
        }
        output = new Bytes(IMAGE_SIZE);
        tape = new Bytes(TAPE_ROOM);
        reader = new Reader(tape);
    }

    public int request(int client, int kind, int key, int word)
            throws IndexOutOfBoundsException, IllegalArgumentException, IllegalStateException {
        if (!isClient(client) || key < 0 || key >= KEYS) {
            throw new IndexOutOfBoundsException("no such client or key");
        }
        if (kind < GET || kind > ADD) {
            throw new IllegalArgumentException("no such kind");
        }
        Client asker = clients[client];
        if (asker.open) {
            throw new IllegalStateException("its latest request is open");
        }
        asker.begin(new Request(client, asker.requests + 1, kind, key, word));
        stamp(asker);
        return asker.requests;
    }

    public void again(int client) throws IndexOutOfBoundsException, IllegalStateException {
        if (!isClient(client)) {
            throw new IndexOutOfBoundsException("no such client");
        }
        Client asker = clients[client];
        if (!asker.open) {
            throw new IllegalStateException("it has no open request");
        }
        stamp(asker);
    }

    public void deliver(int message) throws IllegalArgumentException {
        int k = net.find(message);
        if (k == NONE) {
            throw new IllegalArgumentException("it is not in the air");
        }
        handOver(k);
    }

    public void lose(int message) throws IllegalArgumentException {
        int k = net.find(message);
        if (k == NONE) {
            throw new IllegalArgumentException("it is not in the air");
        }
        net.pull(k);
        net.lost++;
    }

    public int flow(int n) throws IllegalArgumentException {
        if (n < 0 || n > FLOW_MOST) {
            throw new IllegalArgumentException("n is not 0 .. 40");
        }
        int delivered = 0;
        while (delivered < n && net.count > 0) {
            handOver(0);
            delivered++;
        }
        return delivered;
    }

    public void down(int replica) throws IndexOutOfBoundsException, IllegalStateException {
        if (!isReplica(replica)) {
            throw new IndexOutOfBoundsException("no such replica");
        }
        if (replicas[replica].down || downs() >= net.half) {
            throw new IllegalStateException("it is down, or as many as may be are");
        }
        replicas[replica].down = true;
        replicas[replica].pending.clear();
    }

    public void up(int replica) throws IndexOutOfBoundsException, IllegalStateException {
        if (!isReplica(replica)) {
            throw new IndexOutOfBoundsException("no such replica");
        }
        if (!replicas[replica].down) {
            throw new IllegalStateException("it is not down");
        }
        replicas[replica].down = false;
        replicas[replica].heardAt = net.time;
    }

    public void suspect(int replica) throws IndexOutOfBoundsException, IllegalStateException {
        if (!isReplica(replica)) {
            throw new IndexOutOfBoundsException("no such replica");
        }
        if (replicas[replica].down) {
            throw new IllegalStateException("it is down");
        }
        replicas[replica].turnToNextLead();
    }

    public int nudge(int replica) throws IndexOutOfBoundsException, IllegalStateException {
        if (!isReplica(replica)) {
            throw new IndexOutOfBoundsException("no such replica");
        }
        if (replicas[replica].down) {
            throw new IllegalStateException("it is down");
        }
        int before = net.sent;
        replicas[replica].askAgain();
        return net.sent - before;
    }

    public void sync(int replica) throws IndexOutOfBoundsException, IllegalStateException {
        if (!isReplica(replica)) {
            throw new IndexOutOfBoundsException("no such replica");
        }
        Replica sender = replicas[replica];
        if (sender.down || !sender.leads() || sender.status != NORMAL) {
            throw new IllegalStateException("it is down, does not lead, or is not normal");
        }
        sender.sendSync();
    }

    public int tick(int n) throws IllegalArgumentException {
        if (n < 0 || n > TICKS_MOST) {
            throw new IllegalArgumentException("n is not 0 .. 40");
        }
        int before = net.sent;
        for (int i = 0; i < n; i++) {
            passTick();
        }
        return net.sent - before;
    }

    public int calm(int n) throws IllegalArgumentException {
        if (n < 0 || n > CALM_MOST) {
            throw new IllegalArgumentException("n is not 0 .. 20");
        }
        int before = acceptedTotal;
        for (int i = 0; i < n; i++) {
            passTick();
            int waiting = net.count;
            for (int k = 0; k < waiting; k++) {
                handOver(0);
            }
        }
        return acceptedTotal - before;
    }

    public boolean fail() {
        boolean was = sequencerUp;
        if (was) {
            failedAt = net.time;
        }
        sequencerUp = false;
        return was;
    }

    public int install() {
        raiseSequencer();
        return session;
    }

    public int replica(int replica, int what) {
        if (!isReplica(replica)) {
            return NONE;
        }
        Replica it = replicas[replica];
        switch (what) {
            case 0: return it.down ? 1 : 0;
            case 1: return it.status;
            case 2: return leadOf(it.view);
            case 3: return sessionOf(it.view);
            case 4: return it.log.base;
            case 5: return it.log.length;
            case 6: return it.point;
            case 7: return it.pending.heldCount;
            case 8: return leadOf(it.normal);
            case 9: return sessionOf(it.normal);
            case 10: return it.synced;
            default: return NONE;
        }
    }

    public int entry(int replica, int slot, int what) {
        boolean there = isReplica(replica) && replicas[replica].log.has(slot);
        Request request = there ? replicas[replica].log.at(slot) : null;
        if (what == 5) {
            return request == null ? 0 : request.word;
        }
        if (what == 0 && there) {
            return request == null ? 0 : 1;
        }
        if (request == null) {
            return NONE;
        }
        switch (what) {
            case 1: return request.client;
            case 2: return request.number;
            case 3: return request.kind;
            case 4: return request.key;
            default: return NONE;
        }
    }

    public int word(int replica, int key) {
        if (!isReplica(replica) || key < 0 || key >= KEYS) {
            return 0;
        }
        table.replay(replicas[replica].log, replicas[replica].executedEnd());
        return table.words[key];
    }

    public int client(int client, int what) {
        if (!isClient(client)) {
            return NONE;
        }
        Client it = clients[client];
        if (what == 0) {
            return it.requests;
        }
        if (what == 1) {
            return it.open ? 1 : it.requests > 0 ? 2 : 0;
        }
        if (it.open || it.requests == 0) {
            return NONE;
        }
        switch (what) {
            case 2: return it.accepted.slot;
            case 3: return leadOf(it.accepted.view);
            case 4: return sessionOf(it.accepted.view);
            default: return NONE;
        }
    }

    public int answer(int client) {
        return isClient(client) ? clients[client].accepted.answer : 0;
    }

    public int about(int what) {
        switch (what) {
            case 0: return net.count;
            case 1: return net.sent;
            case 2: return net.lost;
            case 3: return sequencerUp ? 1 : 0;
            case 4: return session;
            case 5: return stamps;
            case 6: return acceptedTotal;
            case 7: return net.time;
            case 8: return patience;
            default: return NONE;
        }
    }

    public int message(int k, int what) {
        if (k < 0 || k >= net.count) {
            return NONE;
        }
        Message it = net.at(k);
        switch (what) {
            case 0: return it.number;
            case 1: return it.kind;
            case 2: return it.from;
            case 3: return it.to;
            default: return NONE;
        }
    }

    public int wire(int k) {
        if (k < 0 || k >= net.count) {
            return NONE;
        }
        net.at(k).write(output);
        return output.length;
    }

    public int image(int replica) throws IndexOutOfBoundsException {
        if (!isReplica(replica)) {
            throw new IndexOutOfBoundsException("no such replica");
        }
        output.length = 0;
        replicas[replica].writeHead(output);
        output.endBlock(BLOCK);
        for (int block = 1; block * BLOCK < IMAGE_SIZE; block++) {
            replicas[replica].log.writeEntries(output, (block - 1) * ENTRIES_OF_BLOCK);
            output.endBlock((block + 1) * BLOCK);
        }
        return output.length;
    }

    public int output(int i) {
        return output.at(i);
    }

    public boolean put(long v, int n) {
        if (n < 0 || n > 8 || tape.length + n > TAPE_ROOM) {
            return false;
        }
        for (int shift = 8 * (n - 1); shift >= 0; shift -= 8) {
            tape.add((int) (v >>> shift));
        }
        return true;
    }

    public int take(int i, int bit) {
        tape.become(output);
        if (bit >= 0 && bit <= 7) {
            tape.turnBit(i, bit);
        }
        return tape.length;
    }

    public int untake() throws IllegalArgumentException {
        reader.read();
        if (reader.fault != 0) {
            throw new IllegalArgumentException("the tape has a fault");
        }
        return reader.at(0);
    }

    public int fault(int what) {
        switch (what) {
            case 0: return reader.fault;
            case 1: return reader.place;
            default: return NONE;
        }
    }

    public int told(int i) {
        return reader.at(i);
    }

    public int tolds() {
        return reader.count;
    }

    public int broken() {
        int kept = Math.min(acceptedTotal, REMEMBERED);
        for (int i = 0; i < kept; i++) {
            accepted[i].failed = false;
        }
        for (Replica replica : replicas) {
            if (replica.leads() && replica.status != CHANGE) {
                judge(replica, kept);
            }
        }
        int failed = 0;
        for (int i = 0; i < kept; i++) {
            failed += accepted[i].failed ? 1 : 0;
        }
        return failed;
    }

    private void judge(Replica replica, int kept) {
        table.replay(replica.log, replica.log.length);
        for (int i = 0; i < kept && i < accepted.length; i++) {
            Place place = accepted[i];
            boolean counts = place.view == replica.view || isBehind(place.view, replica.view);
            if (counts && !table.keeps(replica.log, place)) {
                place.failed = true;
            }
        }
    }

    private boolean isClient(int client) {
        return client >= 0 && client < clients.length;
    }

    private boolean isReplica(int replica) {
        return replica >= 0 && replica < replicas.length;
    }

    private int downs() {
        int downs = 0;
        for (Replica replica : replicas) {
            downs += replica.down ? 1 : 0;
        }
        return downs;
    }

    /** A stamp in vain counts for the client's patience, too. */
    private void stamp(Client asker) {
        asker.stampedAt = net.time;
        if (!sequencerUp) {
            return;
        }
        stamps++;
        for (int to = 0; to < net.replicas; to++) {
            Message message = net.send(STAMPED, NONE, to, viewOf(0, session), stamps);
            message.request = asker.latest;
        }
    }

    private void raiseSequencer() {
        sequencerUp = true;
        session++;
        stamps = 0;
    }

    private void passTick() {
        net.time++;
        if (!sequencerUp && net.time - failedAt >= patience) {
            raiseSequencer();
        }
        for (Replica replica : replicas) {
            if (!replica.down) {
                replica.passTick(patience);
            }
        }
        for (Client client : clients) {
            if (client.open && net.time - client.stampedAt >= 2 * patience) {
                stamp(client);
            }
        }
    }

    /** The message leaves the air first: what comes of it may have its place there. */
    private void handOver(int k) {
        Message message = net.pull(k);
        if (message.kind == REPLY) {
            handToClient(message);
        } else if (isReplica(message.to)) {
            Replica hearer = replicas[message.to];
            if (hearer.down) {
                net.lost++;
            } else {
                hearer.hear(message);
            }
        }
    }

    private void handToClient(Message message) {
        if (!isClient(message.to)) {
            return;
        }
        Client hearer = clients[message.to];
        if (hearer.hearReply(message, net.leaderOf(message.view), net.half + 1)) {
            int next = Math.floorMod(acceptedTotal, REMEMBERED);
            if (next < accepted.length) {
                accepted[next].become(hearer.accepted);
            }
            acceptedTotal++;
        }
    }

    /** A view is one long, its session above its lead: so the greater long is the greater view by S, then L. */
    private static long viewOf(int lead, int session) {
        return ((long) session << 32) | (lead & 0xFFFFFFFFL);
    }

    private static int leadOf(long view) {
        return (int) view;
    }

    private static int sessionOf(long view) {
        return (int) (view >> 32);
    }

    private static boolean isBehind(long view, long other) {
        return view != other && leadOf(view) <= leadOf(other) && sessionOf(view) <= sessionOf(other);
    }

    private static boolean isSameRequest(Request one, Request other) {
        return one != null && other != null && one.client == other.client && one.number == other.number;
    }

    /** Made by request() alone, which has looked at client, kind and key: so they are safe as indices. */
    private static final class Request {
        final int client;
        final int number;
        final int kind;
        final int key;
        final int word;

        Request(int client, int number, int kind, int key, int word) {
            this.client = client;
            this.number = number;
            this.kind = kind;
            this.key = key;
            this.word = word;
        }

        void write(Bytes out) {
            out.add(client);
            out.addNumber(number);
            out.add(kind);
            out.add(key);
            out.addWord(word);
        }
    }

    /** A log and its BASE, which always go together; null in a slot up to the length is a NOTHING. */
    private static final class Log {
        final Request[] slots = new Request[LOG_ROOM];
        int length;
        int base;

        boolean has(int slot) {
            return slot >= 1 && slot <= length && slot <= slots.length;
        }

        Request at(int slot) {
            return has(slot) ? slots[slot - 1] : null;
        }

        boolean isFull() {
            return length >= slots.length;
        }

        void add(Request request) {
            if (length >= 0 && length < slots.length) {
                slots[length] = request;
                length++;
            }
        }

        void replace(int slot, Request request) {
            if (has(slot)) {
                slots[slot - 1] = request;
            }
        }

        void become(Log other) {
            base = other.base;
            length = other.length;
            copyFirst(other);
        }

        void copyFirst(Log other) {
            for (int i = 0; i < other.length && i < slots.length; i++) {
                slots[i] = other.slots[i];
            }
        }

        void write(Bytes out) {
            out.addNumber(length);
            for (int slot = 1; slot <= length; slot++) {
                Request request = at(slot);
                out.add(request == null ? 0 : 1);
                if (request != null) {
                    request.write(out);
                }
            }
        }

        /** The entries of one block of an image, behind as many as are given. */
        void writeEntries(Bytes out, int behind) {
            for (int slot = behind + 1; slot <= behind + ENTRIES_OF_BLOCK; slot++) {
                Request request = at(slot);
                if (request == null) {
                    out.addZeros(16);
                } else {
                    out.add(1);
                    out.add(request.client);
                    out.add(request.kind);
                    out.add(request.key);
                    out.addWord(request.number);
                    out.addWord(request.word);
                    out.addZeros(4);
                }
            }
        }
    }

    /** Made once and used again: what a kind does not tell may stand there from an earlier use. */
    private static final class Message {
        int number;
        int kind;
        int from;
        int to;
        /** Of STAMPED the session alone. */
        long view;
        /** Of TURNED the view in which the sender was NORMAL last. */
        long normal;
        /** Also the m of SYNC REPLY and POINT, and the k of STAMPED. */
        int slot;
        Request request;
        int requestNumber;
        boolean answered;
        int answer;
        final Log log = new Log();

        void write(Bytes out) {
            out.length = 0;
            out.add(kind);
            out.add(from == NONE ? SEQUENCER_BYTE : from);
            out.add(kind == REPLY ? CLIENT_BYTE + to : to);
            if (kind == STAMPED) {
                out.addNumber(sessionOf(view));
            } else {
                out.addView(view);
            }
            writeRest(out);
            out.addWord(out.sumOf(0, out.length));
        }

        private void writeRest(Bytes out) {
            switch (kind) {
                case TURN:
                case PING:
                    break;
                case SYNC:
                    log.write(out);
                    break;
                case TURNED:
                    out.addView(normal);
                    out.addNumber(log.base);
                    log.write(out);
                    break;
                case START:
                    out.addNumber(log.base);
                    log.write(out);
                    break;
                case REPLY:
                    out.addNumber(slot);
                    out.addNumber(requestNumber);
                    out.add(answered ? 1 : 0);
                    if (answered) {
                        out.addWord(answer);
                    }
                    break;
                default:
                    out.addNumber(slot);
                    if ((kind == STAMPED || kind == FOUND) && request != null) {
                        request.write(out);
                    }
                    break;
            }
        }
    }

    /** The air, as a ring of messages that are used again, and the clock that all share. */
    private static final class Net {
        final int replicas;
        final int half;
        final Message[] ring = new Message[RING_ROOM];
        /** What is sent beyond the air's room is written here, and read by none. */
        final Message beyond = new Message();
        int oldest;
        int count;
        int sent;
        int lost;
        int time;

        Net(int replicas) {
            this.replicas = replicas;
            this.half = replicas / 2;
            for (int i = 0; i < ring.length; i++) {
                ring[i] = new Message();
            }
        }

        Message at(int k) {
            return ring[(oldest + k) & (RING_ROOM - 1)];
        }

        int leaderOf(long view) {
            return replicas < 1 ? 0 : Math.floorMod(leadOf(view), replicas);
        }

        int find(int number) {
            for (int k = 0; k < count; k++) {
                if (at(k).number == number) {
                    return k;
                }
            }
            return NONE;
        }

        Message send(int kind, int from, int to, long view, int slot) {
            Message message = beyond;
            if (count < AIR_ROOM) {
                message = ring[(oldest + count) & (RING_ROOM - 1)];
                count++;
            } else {
                lost++;
            }
            message.number = sent;
            message.kind = kind;
            message.from = from;
            message.to = to;
            message.view = view;
            message.slot = slot;
            message.request = null;
            message.answered = false;
            sent++;
            return message;
        }

        /**
         * Takes a message out of the air. It comes to lie just ahead of the oldest one, where the ring is wider
         * than the air's room: so it can be read while what comes of it is sent.
         */
        Message pull(int k) {
            Message message = at(k);
            for (int i = k; i > 0; i--) {
                ring[(oldest + i) & (RING_ROOM - 1)] = ring[(oldest + i - 1) & (RING_ROOM - 1)];
            }
            ring[oldest & (RING_ROOM - 1)] = message;
            oldest = (oldest + 1) & (RING_ROOM - 1);
            count--;
            return message;
        }
    }

    /** What comes of a log when it is executed: always anew from slot 1 on, as any slot may become a NOTHING. */
    private static final class Table {
        final int[] words = new int[KEYS];
        final int[] latestNumbers = new int[CLIENTS];
        final int[] latestAnswers = new int[CLIENTS];
        final boolean[] done = new boolean[LOG_ROOM];
        final int[] given = new int[LOG_ROOM];

        void replay(Log log, int end) {
            for (int i = 0; i < KEYS; i++) {
                words[i] = 0;
            }
            for (int i = 0; i < CLIENTS; i++) {
                latestNumbers[i] = 0;
                latestAnswers[i] = 0;
            }
            for (int i = 0; i < end && i < log.length && i < LOG_ROOM; i++) {
                Request request = log.slots[i];
                done[i] = request != null && request.number > latestNumbers[request.client];
                if (done[i]) {
                    int answer = words[request.key];
                    given[i] = answer;
                    latestNumbers[request.client] = request.number;
                    latestAnswers[request.client] = answer;
                    if (request.kind == PUT) {
                        words[request.key] = request.word;
                    } else if (request.kind == ADD) {
                        words[request.key] = answer + request.word;
                    }
                }
            }
        }

        /** Whether a log that was replayed to its end holds to what was accepted. */
        boolean keeps(Log log, Place place) {
            if (!isSameRequest(log.at(place.slot), place.request)) {
                return false;
            }
            for (int i = 0; i < log.length && i < LOG_ROOM; i++) {
                if (isSameRequest(log.slots[i], place.request)) {
                    return !done[i] || given[i] == place.answer;
                }
            }
            return false;
        }
    }

    /** What a replica HOLDS and COUNTS, which is always dropped together. Sets of replicas are bits of an int. */
    private static final class Pending {
        final int[] heldNumbers = new int[HELD_ROOM];
        final Request[] held = new Request[HELD_ROOM];
        int heldCount;
        int gapReplies;
        int syncReplies;
        /** The m for which SYNC REPLYs are counted. */
        int syncMark;
        int turned;
        final long[] turnedNormals;
        final Log[] turnedLogs;

        Pending(int replicas) {
            turnedNormals = new long[Math.max(0, replicas)];
            turnedLogs = new Log[Math.max(0, replicas)];
            for (int i = 0; i < turnedLogs.length; i++) {
                turnedLogs[i] = new Log();
            }
        }

        void clear() {
            heldCount = 0;
            gapReplies = 0;
            syncReplies = 0;
            syncMark = 0;
            turned = 0;
        }

        int find(int number) {
            for (int i = 0; i < heldCount && i < HELD_ROOM; i++) {
                if (heldNumbers[i] == number) {
                    return i;
                }
            }
            return NONE;
        }

        void hold(int number, Request request) {
            int i = find(number);
            if (i == NONE) {
                i = heldCount;
            }
            if (i < 0 || i >= HELD_ROOM) {
                return;
            }
            heldNumbers[i] = number;
            held[i] = request;
            heldCount = Math.max(heldCount, i + 1);
        }

        /** What was held by that number, null without. */
        Request release(int number) {
            int i = find(number);
            if (i < 0 || i >= HELD_ROOM || heldCount < 1 || heldCount > HELD_ROOM) {
                return null;
            }
            Request request = held[i];
            heldCount--;
            heldNumbers[i] = heldNumbers[heldCount];
            held[i] = held[heldCount];
            return request;
        }

        void countTurned(Message message) {
            int from = message.from;
            if (from >= 0 && from < turnedLogs.length) {
                turned |= 1 << from;
                turnedNormals[from] = message.normal;
                turnedLogs[from].become(message.log);
            }
        }

        boolean looksAt(int replica, long best) {
            return replica >= 0 && replica < turnedNormals.length
                && (turned >> replica & 1) == 1 && turnedNormals[replica] == best;
        }
    }

    private static final class Replica {
        final int number;
        final Net net;
        final Table table;
        boolean down;
        int status;
        long view = viewOf(0, 1);
        /** The view in which it was NORMAL last. */
        long normal = viewOf(0, 1);
        final Log log = new Log();
        int point;
        int synced;
        final Pending pending;
        int heardAt;
        int askedAt;
        int turnedAt;
        int spokeAt;
        int sentSyncAt;

        Replica(int number, Net net, Table table) {
            this.number = number;
            this.net = net;
            this.table = table;
            this.pending = new Pending(net.replicas);
        }

        boolean leads() {
            return net.leaderOf(view) == number;
        }

        int executedEnd() {
            return leads() && status != CHANGE ? log.length : Math.min(point, log.length);
        }

        void hear(Message message) {
            boolean inView = message.kind != STAMPED && message.view == view;
            if (inView && message.from == net.leaderOf(view)) {
                heardAt = net.time;
            }
            if (message.kind >= LOOKUP && message.kind <= POINT && !inView) {
                return;
            }
            if (message.kind == TURN || message.kind == TURNED || message.kind == PING) {
                follow(message.view);
            }
            switch (message.kind) {
                case STAMPED: hearStamped(message); break;
                case LOOKUP: hearLookup(message); break;
                case FOUND: hearFound(message); break;
                case GAP_COMMIT: hearGapCommit(message.slot); break;
                case GAP_REPLY: hearGapReply(message); break;
                case SYNC: hearSync(message.log); break;
                case SYNC_REPLY: hearSyncReply(message); break;
                case POINT: hearPoint(message.slot); break;
                case TURNED: hearTurned(message); break;
                case START: hearStart(message); break;
                default: break;
            }
        }

        private void hearStamped(Message message) {
            int stampSession = sessionOf(message.view);
            if (stampSession > sessionOf(view)) {
                turn(viewOf(leadOf(view), stampSession));
                return;
            }
            boolean holds = stampSession == sessionOf(view) && status != CHANGE
                && log.base + message.slot > log.length
                && pending.heldCount < HELD_MOST && pending.find(message.slot) == NONE;
            if (holds) {
                pending.hold(message.slot, message.request);
                if (status == NORMAL) {
                    takeHeld();
                }
            }
        }

        private void hearLookup(Message message) {
            if (!leads() || status == CHANGE || !log.has(message.slot)) {
                return;
            }
            Request request = log.at(message.slot);
            int kind = request == null ? GAP_COMMIT : FOUND;
            net.send(kind, number, message.from, view, message.slot).request = request;
        }

        private void hearFound(Message message) {
            if (status == NORMAL && message.slot == log.length + 1) {
                pending.hold(message.slot - log.base, message.request);
                takeHeld();
            }
        }

        private void hearGapCommit(int slot) {
            boolean next = slot == log.length + 1 && !log.isFull();
            if (leads() || status != NORMAL || !next && !log.has(slot)) {
                return;
            }
            if (next) {
                pending.release(slot - log.base);
                log.add(null);
            } else {
                log.replace(slot, null);
            }
            net.send(GAP_REPLY, number, net.leaderOf(view), view, slot);
            if (next) {
                takeHeld();
            }
        }

        private void hearGapReply(Message message) {
            if (!leads() || status != GAP || message.slot != log.length) {
                return;
            }
            pending.gapReplies |= 1 << message.from;
            if (Integer.bitCount(pending.gapReplies) >= net.half) {
                status = NORMAL;
                takeHeld();
            }
        }

        private void hearSync(Log first) {
            if (leads() || status != NORMAL || log.length < first.length) {
                return;
            }
            log.copyFirst(first);
            synced = Math.max(synced, first.length);
            net.send(SYNC_REPLY, number, net.leaderOf(view), view, first.length);
        }

        private void hearSyncReply(Message message) {
            int mark = message.slot;
            if (!leads() || status == CHANGE || mark <= point) {
                return;
            }
            if (mark != pending.syncMark) {
                pending.syncMark = mark;
                pending.syncReplies = 0;
            }
            pending.syncReplies |= 1 << message.from;
            if (Integer.bitCount(pending.syncReplies) >= net.half) {
                point = mark;
                sendOthers(POINT, mark);
            }
        }

        private void hearPoint(int mark) {
            if (!leads() && status != CHANGE && mark > point && synced >= mark) {
                point = mark;
            }
        }

        private void hearTurned(Message message) {
            if (message.view != view || !leads()) {
                return;
            }
            if (status != CHANGE) {
                net.send(START, number, message.from, view, 0).log.become(log);
                return;
            }
            pending.countTurned(message);
            if (Integer.bitCount(pending.turned) >= net.half) {
                merge();
            }
        }

        private void hearStart(Message message) {
            if (isBehind(view, message.view) || view == message.view && status == CHANGE) {
                view = message.view;
                log.become(message.log);
                becomeNormal();
            }
        }

        /** Joins a view that is told, unless it has it or has more already. */
        private void follow(long told) {
            if (told != view && !isBehind(told, view)) {
                int lead = Math.max(leadOf(view), leadOf(told));
                turn(viewOf(lead, Math.max(sessionOf(view), sessionOf(told))));
            }
        }

        private void takeHeld() {
            boolean leads = leads();
            for (int i = 0; i < LOG_ROOM && !log.isFull(); i++) {
                Request request = pending.release(log.length + 1 - log.base);
                if (request == null) {
                    break;
                }
                log.add(request);
                sendReply(request, leads);
            }
            if (pending.heldCount == 0 || log.isFull()) {
                return;
            }
            askedAt = net.time;
            if (leads) {
                log.add(null);
                status = GAP;
                pending.gapReplies = 0;
                sendOthers(GAP_COMMIT, log.length);
            } else {
                net.send(LOOKUP, number, net.leaderOf(view), view, log.length + 1);
            }
        }

        /** The leader alone tells an answer, and is silent on a request that a later one has overtaken. */
        private void sendReply(Request request, boolean leads) {
            if (leads) {
                table.replay(log, log.length);
                if (table.latestNumbers[request.client] != request.number) {
                    return;
                }
            }
            Message reply = net.send(REPLY, number, request.client, view, log.length);
            reply.requestNumber = request.number;
            reply.answered = leads;
            reply.answer = leads ? table.latestAnswers[request.client] : 0;
        }

        void turnToNextLead() {
            turn(viewOf(leadOf(view) + 1, sessionOf(view)));
        }

        private void turn(long to) {
            view = to;
            status = CHANGE;
            pending.clear();
            synced = 0;
            turnedAt = net.time;
            tellTurn();
        }

        private void tellTurn() {
            askedAt = net.time;
            for (int to = 0; to < net.replicas; to++) {
                if (to != number) {
                    net.send(TURN, number, to, view, 0);
                }
            }
            int leader = net.leaderOf(view);
            if (leader != number) {
                Message message = net.send(TURNED, number, leader, view, 0);
                message.normal = normal;
                message.log.become(log);
            }
        }

        /** Each slot is read before it is written, and the length last: so its own log can be merged in place. */
        private void merge() {
            long best = normal;
            for (int i = 0; i < net.replicas; i++) {
                if ((pending.turned >> i & 1) == 1 && i < pending.turnedNormals.length) {
                    best = Math.max(best, pending.turnedNormals[i]);
                }
            }
            boolean own = normal == best;
            int length = own ? log.length : 0;
            int base = own ? log.base : NONE;
            for (int i = 0; i < net.replicas; i++) {
                if (pending.looksAt(i, best)) {
                    length = Math.max(length, pending.turnedLogs[i].length);
                    base = base == NONE ? pending.turnedLogs[i].base : base;
                }
            }
            for (int slot = 1; slot <= length && slot <= LOG_ROOM; slot++) {
                log.slots[slot - 1] = mergedEntry(slot, best);
            }
            log.length = Math.min(length, LOG_ROOM);
            log.base = sessionOf(best) == sessionOf(view) ? base : log.length;
            becomeNormal();
            sendLogToOthers(START);
        }

        private Request mergedEntry(int slot, long best) {
            boolean own = normal == best && log.has(slot);
            Request found = own ? log.at(slot) : null;
            if (own && found == null) {
                return null;
            }
            for (int i = 0; i < net.replicas; i++) {
                if (pending.looksAt(i, best) && pending.turnedLogs[i].has(slot)) {
                    Request request = pending.turnedLogs[i].at(slot);
                    if (request == null) {
                        return null;
                    }
                    found = found == null ? request : found;
                }
            }
            return found;
        }

        private void becomeNormal() {
            normal = view;
            status = NORMAL;
            pending.clear();
            synced = 0;
            heardAt = net.time;
        }

        private void sendOthers(int kind, int slot) {
            for (int to = 0; to < net.replicas; to++) {
                if (to != number) {
                    net.send(kind, number, to, view, slot);
                }
            }
        }

        private void sendLogToOthers(int kind) {
            for (int to = 0; to < net.replicas; to++) {
                if (to != number) {
                    net.send(kind, number, to, view, 0).log.become(log);
                }
            }
        }

        void sendSync() {
            sentSyncAt = net.time;
            sendLogToOthers(SYNC);
        }

        /** Asks again for what it waits for, as nudge() and a tick do. */
        void askAgain() {
            if (status == CHANGE) {
                tellTurn();
            } else if (status == GAP) {
                askedAt = net.time;
                sendOthers(GAP_COMMIT, log.length);
            } else if (!leads() && pending.heldCount > 0) {
                askedAt = net.time;
                net.send(LOOKUP, number, net.leaderOf(view), view, log.length + 1);
            }
        }

        void passTick(int patience) {
            int now = net.time;
            boolean leads = leads();
            boolean leadsOn = leads && status != CHANGE;
            boolean followsOn = !leads && status == NORMAL;
            if (status == CHANGE && now - turnedAt >= 4 * patience) {
                turnToNextLead();
            } else if (status != NORMAL && now - askedAt >= patience) {
                askAgain();
            } else if (leadsOn && now - spokeAt >= patience) {
                spokeAt = now;
                sendOthers(PING, 0);
            } else if (leadsOn && status == NORMAL && log.length > point && now - sentSyncAt >= 4 * patience) {
                sendSync();
            } else if (followsOn && now - heardAt >= 3 * patience) {
                turnToNextLead();
            } else if (followsOn && pending.heldCount > 0 && now - askedAt >= patience) {
                askAgain();
            }
        }

        void writeHead(Bytes out) {
            out.add(79);
            out.add(82);
            out.add(87);
            out.add(75);
            out.add(number);
            out.add(status);
            out.addZeros(2);
            out.addWord(leadOf(view));
            out.addWord(sessionOf(view));
            out.addWord(leadOf(normal));
            out.addWord(sessionOf(normal));
            out.addWord(log.base);
            out.addWord(point);
            out.addWord(synced);
            out.addWord(log.length);
        }
    }

    /** A view and a slot in which a request is told to stand, and who told it. */
    private static final class Place {
        Request request;
        long view;
        int slot;
        int tellers;
        int answer;
        /** For broken() alone. */
        boolean failed;

        void begin(Request of, long inView, int inSlot) {
            request = of;
            view = inView;
            slot = inSlot;
            tellers = 0;
            answer = 0;
        }

        void become(Place other) {
            request = other.request;
            view = other.view;
            slot = other.slot;
            tellers = other.tellers;
            answer = other.answer;
        }
    }

    private static final class Client {
        Request latest;
        int requests;
        boolean open;
        int stampedAt;
        final Place accepted = new Place();
        /** A ring, so that the place that came first is the one that is forgotten. */
        final Place[] places = new Place[PLACES];
        int firstPlace;
        int placeCount;

        Client() {
            for (int i = 0; i < places.length; i++) {
                places[i] = new Place();
            }
        }

        void begin(Request request) {
            latest = request;
            requests = request.number;
            open = true;
            firstPlace = 0;
            placeCount = 0;
        }

        /** Whether its request is accepted by this reply. */
        boolean hearReply(Message reply, int leader, int enough) {
            if (!open || reply.requestNumber != requests) {
                return false;
            }
            Place place = placeOf(reply.view, reply.slot);
            place.tellers |= 1 << reply.from;
            if (reply.answered) {
                place.answer = reply.answer;
            }
            boolean byLeader = (place.tellers >> leader & 1) == 1;
            if (!byLeader || Integer.bitCount(place.tellers) < enough) {
                return false;
            }
            open = false;
            accepted.become(place);
            return true;
        }

        private Place placeOf(long view, int slot) {
            for (int i = 0; i < placeCount; i++) {
                Place place = places[(firstPlace + i) & (PLACES - 1)];
                if (place.view == view && place.slot == slot) {
                    return place;
                }
            }
            if (placeCount < PLACES) {
                placeCount++;
            } else {
                firstPlace = (firstPlace + 1) & (PLACES - 1);
            }
            Place place = places[(firstPlace + placeCount - 1) & (PLACES - 1)];
            place.begin(latest, view, slot);
            return place;
        }
    }

    private static final class Bytes {
        final byte[] cells;
        int length;

        Bytes(int room) {
            cells = new byte[Math.max(0, room)];
        }

        int at(int i) {
            return i >= 0 && i < length && i < cells.length ? cells[i] & 255 : NONE;
        }

        void add(int value) {
            if (length >= 0 && length < cells.length) {
                cells[length] = (byte) value;
                length++;
            }
        }

        void addZeros(int n) {
            for (int i = 0; i < n; i++) {
                add(0);
            }
        }

        void addWord(int value) {
            for (int shift = 24; shift >= 0; shift -= 8) {
                add(value >>> shift);
            }
        }

        void addNumber(int value) {
            int rest = value;
            for (int i = 0; i < 4 && rest >>> 7 != 0; i++) {
                add(rest & 127 | 128);
                rest >>>= 7;
            }
            add(rest);
        }

        void addView(long view) {
            addNumber(leadOf(view));
            addNumber(sessionOf(view));
        }

        /** Fills up a block that ends there, its sum last. */
        void endBlock(int end) {
            addZeros(end - SUM_SIZE - length);
            addWord(sumOf(end - BLOCK, length));
        }

        /** As much of another one as there is room for. */
        void become(Bytes other) {
            length = Math.min(other.length, cells.length);
            for (int i = 0; i < length && i < other.cells.length; i++) {
                cells[i] = other.cells[i];
            }
        }

        void turnBit(int i, int bit) {
            if (i >= 0 && i < length && i < cells.length) {
                cells[i] = (byte) (cells[i] ^ 1 << bit);
            }
        }

        int sumOf(int from, int to) {
            int sum = -1;
            for (int i = Math.max(0, from); i < to && i < cells.length; i++) {
                sum ^= cells[i] & 255;
                for (int bit = 0; bit < 8; bit++) {
                    sum = (sum & 1) == 1 ? sum >>> 1 ^ 0xEDB88320 : sum >>> 1;
                }
            }
            return ~sum;
        }
    }

    /** Reads the tape as a message. After the first fault nothing more is read, so that it stays the first. */
    private static final class Reader {
        final Bytes tape;
        final int[] told = new int[TOLD_ROOM];
        int count;
        int fault;
        int place = NONE;
        int next;

        Reader(Bytes tape) {
            this.tape = tape;
        }

        int at(int i) {
            return i >= 0 && i < count && i < told.length ? told[i] : 0;
        }

        void read() {
            count = 0;
            fault = 0;
            place = NONE;
            next = 0;
            int kind = readByte(PING);
            readSender();
            readReceiver();
            readRest(kind);
            readSum();
            if (fault == 0 && next < tape.length) {
                spoil(BYTES_BEHIND, next);
            }
            if (fault != 0) {
                count = 0;
            }
            tape.length = 0;
        }

        private void readRest(int kind) {
            readNumber();
            if (kind != STAMPED) {
                readNumber();
            }
            switch (kind) {
                case TURN:
                case PING:
                    break;
                case SYNC:
                    readLog();
                    break;
                case TURNED:
                    readNumber();
                    readNumber();
                    readNumber();
                    readLog();
                    break;
                case START:
                    readNumber();
                    readLog();
                    break;
                case REPLY:
                    readNumber();
                    readNumber();
                    if (readByte(1) == 1) {
                        tell(nextWord());
                    }
                    break;
                default:
                    readNumber();
                    if (kind == STAMPED || kind == FOUND) {
                        readRequest();
                    }
                    break;
            }
        }

        private void readSender() {
            int sender = readByte(255);
            if (sender > 6 && sender != SEQUENCER_BYTE) {
                spoil(CANNOT_BE, next - 1);
            }
        }

        private void readReceiver() {
            int receiver = readByte(255);
            boolean client = receiver >= CLIENT_BYTE && receiver < CLIENT_BYTE + CLIENTS;
            if (receiver > 6 && !client) {
                spoil(CANNOT_BE, next - 1);
            }
        }

        private void readLog() {
            int first = next;
            int entries = readNumber();
            if (entries > LOG_ROOM) {
                spoil(LONG_LOG, first);
            }
            for (int i = 0; i < entries && fault == 0; i++) {
                if (readByte(1) == 1) {
                    readRequest();
                }
            }
        }

        private void readRequest() {
            readByte(CLIENTS - 1);
            readNumber();
            readByte(ADD);
            readByte(KEYS - 1);
            tell(nextWord());
        }

        private void readSum() {
            int first = next;
            int due = tape.sumOf(0, first);
            int sum = nextWord();
            if (sum != due) {
                spoil(OTHER_SUM, first);
            }
        }

        private int readByte(int most) {
            int value = nextByte();
            if (value > most) {
                spoil(CANNOT_BE, next - 1);
            }
            tell(value);
            return value;
        }

        private int readNumber() {
            int first = next;
            int size = 0;
            int latest = 128;
            long value = 0;
            while (size < 5 && latest >= 128) {
                latest = nextByte();
                value |= (long) (latest & 127) << 7 * size;
                size++;
            }
            if (latest >= 128 || value > 2147483647L || size > 1 && latest == 0) {
                spoil(BAD_NUMBER, first);
            }
            tell((int) value);
            return (int) value;
        }

        private int nextWord() {
            int value = 0;
            for (int i = 0; i < 4; i++) {
                value = value << 8 | nextByte();
            }
            return value;
        }

        /** 0 when there is none, and after a fault. */
        private int nextByte() {
            if (fault != 0) {
                return 0;
            }
            int value = tape.at(next);
            if (value == NONE) {
                spoil(ENDS_EARLY, tape.length);
                return 0;
            }
            next++;
            return value;
        }

        private void tell(int value) {
            if (fault == 0 && count >= 0 && count < told.length) {
                told[count] = value;
                count++;
            }
        }

        private void spoil(int kind, int at) {
            if (fault == 0) {
                fault = kind;
                place = at;
            }
        }
    }
}
