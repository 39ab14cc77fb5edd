/** Finds and moves messages by what they are, so that a test need not know their numbers. */
final class Air {
    static final int STAMPED = 0;
    static final int LOOKUP = 1;
    static final int FOUND = 2;
    static final int GAP_COMMIT = 3;
    static final int GAP_REPLY = 4;
    static final int SYNC = 5;
    static final int SYNC_REPLY = 6;
    static final int POINT = 7;
    static final int TURN = 8;
    static final int TURNED = 9;
    static final int START = 10;
    static final int REPLY = 11;
    static final int PING = 12;

    private Air() { }

    /** The place in the air of the oldest such message; -1 without. */
    static int place(OrderedWorks x, int kind, int from, int to) {
        for (int k = 0; k < x.about(0); k++) {
            if (x.message(k, 1) == kind && x.message(k, 2) == from && x.message(k, 3) == to) {
                return k;
            }
        }
        return -1;
    }

    static int number(OrderedWorks x, int kind, int from, int to) {
        return x.message(place(x, kind, from, to), 0);
    }

    /** The number of the newest such message; -1 without. */
    static int last(OrderedWorks x, int kind, int from, int to) {
        for (int k = x.about(0) - 1; k >= 0; k--) {
            if (x.message(k, 1) == kind && x.message(k, 2) == from && x.message(k, 3) == to) {
                return x.message(k, 0);
            }
        }
        return -1;
    }

    static void deliver(OrderedWorks x, int kind, int from, int to) {
        x.deliver(number(x, kind, from, to));
    }

    static void lose(OrderedWorks x, int kind, int from, int to) {
        x.lose(number(x, kind, from, to));
    }

    static int count(OrderedWorks x, int kind) {
        int n = 0;
        for (int k = 0; k < x.about(0); k++) {
            n += x.message(k, 1) == kind ? 1 : 0;
        }
        return n;
    }

    static void clear(OrderedWorks x) {
        while (x.about(0) > 0) {
            x.lose(x.message(0, 0));
        }
    }

    /** Delivers until nothing lies in the air. */
    static void settle(OrderedWorks x) {
        for (int i = 0; i < 1000 && x.about(0) > 0; i++) {
            x.flow(40);
        }
    }

    /** A request that all replicas get, and whose replies are delivered. */
    static void whole(OrderedWorks x, int client, int kind, int key, int word) {
        x.request(client, kind, key, word);
        settle(x);
    }

    /** A request that all replicas get, and nothing else that lies in the air is delivered. */
    static void stampedToAll(OrderedWorks x, int client) {
        x.request(client, 1, 0, 1);
        for (int r = 0; x.replica(r, 0) != OrderedWorks.NONE; r++) {
            x.deliver(last(x, STAMPED, -1, r));
        }
    }

    /** A client's open request is stamped again, or a new one is: ADD 1 to key 0. */
    static void stamp(OrderedWorks x, int client) {
        if (x.client(client, 1) == 1) {
            x.again(client);
        } else {
            x.request(client, 2, 0, 1);
        }
    }

    /** A stamped request that comes to these replicas, in this order, and is lost on its way to all others. */
    static void stampTo(OrderedWorks x, int client, int... replicas) {
        stamp(x, client);
        int[] numbers = new int[replicas.length];
        for (int i = 0; i < replicas.length; i++) {
            numbers[i] = last(x, STAMPED, -1, replicas[i]);
        }
        int[] all = new int[count(x)];
        for (int r = 0; r < all.length; r++) {
            all[r] = last(x, STAMPED, -1, r);
        }
        for (int number : all) {
            if (!has(numbers, number)) {
                x.lose(number);
            }
        }
        for (int number : numbers) {
            x.deliver(number);
        }
    }

    /** That many more entries in every log; the request stays open, and nothing lies in the air then. */
    static void fill(OrderedWorks x, int client, int entries) {
        for (int i = 0; i < entries; i++) {
            stamp(x, client);
            for (int r = 0; r < count(x); r++) {
                x.deliver(last(x, STAMPED, -1, r));
            }
            clear(x);
        }
    }

    private static boolean has(int[] numbers, int number) {
        for (int n : numbers) {
            if (n == number) {
                return true;
            }
        }
        return false;
    }

    /** How many replicas there are. */
    static int count(OrderedWorks x) {
        int n = 0;
        while (n < 20 && x.replica(n, 0) != OrderedWorks.NONE) {
            n++;
        }
        return n;
    }

    /** One letter a slot: the client's number, or a dash for a NOTHING. */
    static String log(OrderedWorks x, int r) {
        StringBuilder text = new StringBuilder();
        for (int slot = 1; slot <= x.replica(r, 5); slot++) {
            text.append(x.entry(r, slot, 0) == 0 ? "-" : Integer.toString(x.entry(r, slot, 1)));
        }
        return text.toString();
    }

    /** What lies in the air behind the first ones: KIND, from and to of each. */
    static String behind(OrderedWorks x, int first) {
        StringBuilder text = new StringBuilder();
        for (int k = first; k < x.about(0); k++) {
            text.append(k == first ? "" : " ").append(x.message(k, 1)).append(':').append(x.message(k, 2));
            text.append('>').append(x.message(k, 3));
        }
        return text.toString();
    }

    /** L, S and the STATUS of a replica. */
    static String view(OrderedWorks x, int r) {
        String[] status = {"NORMAL", "GAP", "CHANGE"};
        return "(" + x.replica(r, 2) + ", " + x.replica(r, 3) + ") " + status[x.replica(r, 1)];
    }

    /** The numbers that the k-th oldest message tells, behind the KIND, the sender and the receiver. */
    static String tells(OrderedWorks x, int k) {
        x.wire(k);
        x.take(-1, 0);
        x.untake();
        StringBuilder text = new StringBuilder();
        for (int i = 3; i < x.tolds(); i++) {
            text.append(i == 3 ? "" : " ").append(x.told(i));
        }
        return text.toString();
    }

    static String tells(OrderedWorks x, int kind, int from, int to) {
        return tells(x, place(x, kind, from, to));
    }
}
