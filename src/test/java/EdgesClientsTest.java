/** The boundary cases of a new object, requests and REPLYs: promises 1, 2, 3, 19 and 20. */
public final class EdgesClientsTest {
    private static final Class<?> BOUNDS = IndexOutOfBoundsException.class;
    private static final Class<?> ARGUMENT = IllegalArgumentException.class;
    private static final Class<?> STATE = IllegalStateException.class;
    private static final int[] FAR = {-1, Integer.MIN_VALUE, Integer.MAX_VALUE};

    public static void main(String[] args) {
        promise1();
        atFirst();
        calls512();
        firstNumbers();
        kinds();
        promise2();
        firstTold();
        promise3();
        enoughReplies();
        onePlace();
        manyPlaces();
        promise19();
        promise20();
        Sentence.end();
    }

    private static void promise1() {
        Sentence.holds("Promise 1", "N is 3, 5 or 7, as n modulo 3 is 0, 1, 2", () -> {
            int[] due = {3, 5, 7};
            for (int n = 0; n < 9; n++) {
                Check.due("n = " + n, Air.count(new OrderedWorks(n, 0)), due[n % 3]);
            }
            Check.due("the largest n", Air.count(new OrderedWorks(Integer.MAX_VALUE, 0)), 5);
        });
        Sentence.holds("Promise 1", "T is 3 and t modulo 6 more", () -> {
            for (int t = 0; t < 13; t++) {
                Check.due("t = " + t, new OrderedWorks(0, t).about(8), 3 + t % 6);
            }
            Check.due("the largest t", new OrderedWorks(0, Integer.MAX_VALUE).about(8), 4);
        });
        Sentence.holds("Promise 1", "(Modulo: 0 or above.)", () -> {
            int[][] due = {{-1, 7, 8}, {-2, 5, 7}, {-3, 3, 6}, {-4, 7, 5}, {-5, 5, 4}, {-6, 3, 3},
                {Integer.MIN_VALUE, 5, 7}};
            for (int[] d : due) {
                Check.due("n = " + d[0], Air.count(new OrderedWorks(d[0], 0)), d[1]);
                Check.due("t = " + d[0], new OrderedWorks(0, d[0]).about(8), d[2]);
            }
        });
        Sentence.holds("Terms", "REPLICAS 0 .. N - 1 (N is 3, 5 or 7; F is N / 2, cut)", () -> {
            for (int n = 0; n < 3; n++) {
                OrderedWorks x = new OrderedWorks(n, 0);
                int half = n + 1;
                for (int r = 0; r < half; r++) {
                    x.down(r);
                }
                Check.thrown("F are down", STATE, () -> x.down(half));
                Check.due("the last replica", x.replica(2 * half, 0), 0);
                Check.due("none behind it", x.replica(2 * half + 1, 0), -1);
            }
        });
    }

    private static void atFirst() {
        Sentence.holds("Terms", "THE SEQUENCER, if it is up, has a SESSION, 1 at first, and a COUNT, 0 at first.", () -> {
            for (int n = 0; n < 3; n++) {
                OrderedWorks x = new OrderedWorks(n, 5);
                Check.due("up", x.about(3), 1);
                Check.due("SESSION", x.about(4), 1);
                Check.due("COUNT", x.about(5), 0);
                Check.due("nothing lies in the air", x.about(0), 0);
                Check.due("nothing was sent", x.about(1), 0);
                Check.due("nothing was lost", x.about(2), 0);
                Check.due("nothing was accepted", x.about(6), 0);
            }
        });
        Sentence.holds("Terms", "The constants: `NONE = -1`: None.", () -> Check.due("NONE", OrderedWorks.NONE, -1));
    }

    private static void calls512() {
        Sentence.holds("What it is", "An object is used for at most 512 calls after it has been made", () -> {
            OrderedWorks x = new OrderedWorks(1, 0);
            x.request(0, 2, 0, 1);
            for (int call = 2; call <= 510; call++) {
                if (call % 2 == 0) {
                    x.again(0);
                } else {
                    x.lose(x.message(0, 0));
                }
            }
            Check.thrown("the 511th", STATE, () -> x.request(0, 0, 0, 0));
            Check.due("the 512th", x.request(1, 0, 0, 0), 1);
        });
    }

    private static void firstNumbers() {
        Sentence.holds("Terms", "CLIENTS 0 .. 3; KEYS 0 .. 7, each with a word, 0 at first.", () -> {
            OrderedWorks x = new OrderedWorks(0, 0);
            for (int key = 0; key < 8; key++) {
                Check.due("word", x.word(0, key), 0);
            }
            for (int c = 0; c < 4; c++) {
                Air.whole(x, c, 1, 7 - c, 100 + c);
                Air.whole(x, c, 1, c, 10 + c);
            }
            for (int key = 0; key < 8; key++) {
                Check.due("word of key " + key, x.word(0, key), key < 4 ? 10 + key : 107 - key);
            }
        });
        Sentence.holds("Terms", "A REQUEST of a client has a number (its first one 1, and so on)", () -> {
            OrderedWorks x = new OrderedWorks(0, 0);
            for (int number = 1; number < 6; number++) {
                for (int c = 0; c < 4; c++) {
                    Check.due("number", x.request(c, 0, 0, 0), number);
                }
                Air.settle(x);
            }
        });
        Sentence.holds("Terms", "To STAMP a request: COUNT becomes one more, and STAMPED (SESSION, COUNT, the request)"
            + " is sent to each replica, from 0 on.", () -> {
                OrderedWorks x = new OrderedWorks(2, 0);
                x.down(0);
                x.down(6);
                x.request(0, 1, 0, Integer.MIN_VALUE);
                Check.text("to those that are DOWN, too", Air.behind(x, 0),
                    "0:-1>0 0:-1>1 0:-1>2 0:-1>3 0:-1>4 0:-1>5 0:-1>6");
                Check.text("the first COUNT is 1", Air.tells(x, 6), "1 1 0 1 1 0 -2147483648");
                x.again(0);
                Check.text("the next one 2", Air.tells(x, 7), "1 2 0 1 1 0 -2147483648");
            });
        Sentence.holds("Terms", "While it is not up nothing comes of a request that should be stamped.", () -> {
            OrderedWorks x = new OrderedWorks(0, 0);
            x.fail();
            Check.due("it has its number", x.request(0, 1, 0, 1), 1);
            x.again(0);
            Check.due("nothing is sent", x.about(1), 0);
            Check.due("COUNT stays", x.about(5), 0);
            Check.due("it is open", x.client(0, 1), 1);
            x.install();
            Check.due("it does not come later by itself", x.about(1), 0);
            x.again(0);
            Check.due("but when it is stamped again", x.about(1), 3);
        });
    }

    private static void kinds() {
        Sentence.holds("Terms", "a kind (0 GET, 1 PUT, 2 ADD), a key, a word", () -> {
            int[] words = {0, 1, -1, Integer.MIN_VALUE, Integer.MAX_VALUE};
            for (int word : words) {
                OrderedWorks x = new OrderedWorks(0, 0);
                Air.whole(x, 0, 1, 2, 100);
                Air.whole(x, 1, 0, 2, word);
                Check.due("GET leaves it", x.word(0, 2), 100);
                Check.due("and answers it", x.answer(1), 100);
                Air.whole(x, 1, 2, 2, word);
                Check.due("ADD", x.word(0, 2), 100 + word);
                Check.due("answers what was there", x.answer(1), 100);
                Air.whole(x, 1, 1, 2, word);
                Check.due("PUT", x.word(0, 2), word);
                Check.due("answers what was there", x.answer(1), 100 + word);
                Check.due("another key's word stays", x.word(0, 1) + x.word(0, 3), 0);
            }
        });
    }

    private static void promise2() {
        Sentence.holds("Promise 2", "IndexOutOfBoundsException: no such client or key.", () -> {
            OrderedWorks x = new OrderedWorks(0, 0);
            for (int far : FAR) {
                Check.thrown("client " + far, BOUNDS, () -> x.request(far, 0, 0, 0));
                Check.thrown("key " + far, BOUNDS, () -> x.request(0, 0, far, 0));
            }
            Check.thrown("client 4", BOUNDS, () -> x.request(4, 0, 0, 0));
            Check.thrown("key 8", BOUNDS, () -> x.request(0, 0, 8, 0));
            Check.due("client 3, key 7", x.request(3, 0, 7, 0), 1);
            Check.due("client 0, key 0", x.request(0, 0, 0, 0), 1);
        });
        Sentence.holds("Promise 2", "IllegalArgumentException: no such kind.", () -> {
            OrderedWorks x = new OrderedWorks(0, 0);
            for (int far : FAR) {
                Check.thrown("kind " + far, ARGUMENT, () -> x.request(0, far, 0, 0));
            }
            Check.thrown("kind 3", ARGUMENT, () -> x.request(0, 3, 0, 0));
            for (int kind = 0; kind < 3; kind++) {
                Check.due("kind " + kind, x.request(kind, kind, 0, 0), 1);
            }
        });
        Sentence.holds("Promise 2", "IllegalStateException: its latest one is open.", () -> {
            OrderedWorks x = new OrderedWorks(0, 0);
            x.request(1, 1, 0, 7);
            Check.thrown("open", STATE, () -> x.request(1, 1, 0, 8));
            Check.due("another client's is not", x.request(2, 1, 1, 9), 1);
            Air.settle(x);
            Check.due("it is accepted: the next one", x.request(1, 1, 0, 8), 2);
            x.fail();
            Air.settle(x);
            x.request(2, 1, 1, 1);
            Check.thrown("open, though it was stamped in vain", STATE, () -> x.request(2, 1, 1, 1));
        });
        Sentence.holds("Promise 2", "A client's next request, which is open then, is stamped: its number.", () -> {
            OrderedWorks x = new OrderedWorks(0, 0);
            Check.thrown("refused", BOUNDS, () -> x.request(0, 0, 8, 0));
            Check.thrown("refused", ARGUMENT, () -> x.request(0, 3, 0, 0));
            Check.due("a refused one has no number", x.request(0, 0, 0, 0), 1);
            Check.thrown("refused", STATE, () -> x.request(0, 0, 0, 0));
            Air.settle(x);
            Check.due("nor this one", x.request(0, 0, 0, 0), 2);
            Check.due("open", x.client(0, 1), 1);
        });
    }

    private static void firstTold() {
        Sentence.holds("Terms", "Of two exceptions that hold the one that is told first is thrown.", () -> {
            OrderedWorks x = new OrderedWorks(0, 0);
            x.request(0, 0, 0, 0);
            Check.thrown("client ahead of kind", BOUNDS, () -> x.request(4, 3, 0, 0));
            Check.thrown("key ahead of kind", BOUNDS, () -> x.request(1, -1, -1, 0));
            Check.thrown("key ahead of the open one", BOUNDS, () -> x.request(0, 0, 8, 0));
            Check.thrown("key ahead of both", BOUNDS, () -> x.request(0, 3, 8, 0));
            Check.thrown("kind ahead of the open one", ARGUMENT, () -> x.request(0, 3, 0, 0));
            x.down(1);
            Check.thrown("no such one ahead of F are DOWN", BOUNDS, () -> x.down(3));
        });
    }

    private static void promise3() {
        Sentence.holds("Promise 3", "Its open request is stamped again. IndexOutOfBoundsException: no such client.", () -> {
            OrderedWorks x = new OrderedWorks(0, 0);
            for (int far : FAR) {
                Check.thrown("client " + far, BOUNDS, () -> x.again(far));
            }
            Check.thrown("client 4", BOUNDS, () -> x.again(4));
            x.request(3, 0, 0, 0);
            x.again(3);
            Check.due("client 3", x.about(5), 2);
        });
        Sentence.holds("Promise 3", "IllegalStateException: none is open.", () -> {
            OrderedWorks x = new OrderedWorks(0, 0);
            Check.thrown("it had none", STATE, () -> x.again(0));
            x.request(0, 0, 0, 0);
            x.again(0);
            Air.settle(x);
            Check.thrown("it is accepted", STATE, () -> x.again(0));
            Check.thrown("another client's", STATE, () -> x.again(1));
            Check.due("COUNT", x.about(5), 2);
        });
    }

    private static void enoughReplies() {
        Sentence.holds("REPLY", "when F + 1 have sent it, the leader of that view among them, the request is ACCEPTED",
            () -> {
                for (int n = 0; n < 3; n++) {
                    OrderedWorks x = replied(n);
                    int half = n + 1;
                    for (int r = 0; r < half; r++) {
                        Air.deliver(x, Air.REPLY, r, 0);
                    }
                    Check.due("F are not enough", x.client(0, 1), 1);
                    Air.deliver(x, Air.REPLY, half, 0);
                    Check.due("F + 1 are", x.client(0, 1), 2);
                    OrderedWorks y = replied(n);
                    for (int r = 1; r <= 2 * half; r++) {
                        Air.deliver(y, Air.REPLY, r, 0);
                    }
                    Check.due("all but the leader are not", y.client(0, 1), 1);
                    Air.deliver(y, Air.REPLY, 0, 0);
                    Check.due("with the leader they are", y.client(0, 1), 2);
                }
            });
        Sentence.holds("REPLY", "the leader of that view among them", () -> {
            for (int lead = 1; lead <= 4; lead++) {
                OrderedWorks x = new OrderedWorks(0, 0);
                int leader = lead % 3;
                int other = (lead + 1) % 3;
                for (int i = 0; i < lead; i++) {
                    x.suspect(other);
                }
                x.deliver(Air.last(x, Air.TURNED, other, leader));
                Air.deliver(x, Air.START, leader, other);
                Air.deliver(x, Air.START, leader, (lead + 2) % 3);
                Air.clear(x);
                Air.stampedToAll(x, 0);
                Air.deliver(x, Air.REPLY, other, 0);
                Air.deliver(x, Air.REPLY, (lead + 2) % 3, 0);
                Check.due("F + 1, but not the leader of (" + lead + ", 1)", x.client(0, 1), 1);
                Air.deliver(x, Air.REPLY, leader, 0);
                Check.due("with it", x.client(0, 3), lead);
            }
        });
        Sentence.holds("REPLY", "REPLY, delivered to its client, whose request of that number is still open", () -> {
            OrderedWorks x = replied(0);
            Air.deliver(x, Air.REPLY, 0, 0);
            Air.deliver(x, Air.REPLY, 1, 0);
            Air.deliver(x, Air.REPLY, 2, 0);
            Check.due("one that comes later counts no more", x.about(6), 1);
            OrderedWorks y = new OrderedWorks(0, 0);
            Air.stampTo(y, 0, 0, 1, 2);
            Air.stampTo(y, 0, 0, 1, 2);
            y.deliver(Air.last(y, Air.REPLY, 0, 0));
            y.deliver(Air.last(y, Air.REPLY, 1, 0));
            Check.due("the second place is accepted", y.client(0, 2), 2);
            y.request(0, 0, 0, 0);
            Air.deliver(y, Air.REPLY, 0, 0);
            Air.deliver(y, Air.REPLY, 1, 0);
            Air.deliver(y, Air.REPLY, 2, 0);
            Check.due("REPLYs of an older number", y.client(0, 1), 1);
            Check.due("one is accepted", y.about(6), 1);
        });
    }

    /** Client 0's request is in all logs, and all REPLYs lie in the air. */
    private static OrderedWorks replied(int n) {
        OrderedWorks x = new OrderedWorks(n, 0);
        Air.stampedToAll(x, 0);
        return x;
    }

    private static void onePlace() {
        Sentence.holds("REPLY", "from how many replicas one of that view and slot came is counted", () -> {
            OrderedWorks x = new OrderedWorks(0, 0);
            Air.stampTo(x, 0, 0, 1);
            Air.stampTo(x, 0, 0, 1);
            Air.deliver(x, Air.REPLY, 0, 0);
            x.deliver(Air.last(x, Air.REPLY, 1, 0));
            Check.due("one of slot 1, one of slot 2", x.client(0, 1), 1);
            Air.deliver(x, Air.REPLY, 1, 0);
            Check.due("two of slot 1", x.client(0, 2), 1);
            OrderedWorks y = new OrderedWorks(0, 0);
            y.request(0, 1, 0, 1);
            y.deliver(1);
            Air.deliver(y, Air.REPLY, 1, 0);
            y.suspect(0);
            y.suspect(0);
            Air.deliver(y, Air.TURNED, 0, 2);
            Check.text("2 leads", Air.view(y, 2), "(2, 1) NORMAL");
            Air.deliver(y, Air.START, 2, 0);
            y.deliver(2);
            Air.deliver(y, Air.REPLY, 2, 0);
            Check.due("slot 1 of two views", y.client(0, 1), 1);
            y.deliver(0);
            Air.deliver(y, Air.REPLY, 0, 0);
            Check.due("slot 1 of one view", y.client(0, 1), 2);
            Check.due("L of that view", y.client(0, 3), 2);
        });
        Sentence.holds("REPLY", "with the leader's ANSWER (the latest that came), view and slot", () -> {
            OrderedWorks x = new OrderedWorks(1, 0);
            Air.whole(x, 1, 1, 0, 41);
            Air.stampedToAll(x, 0);
            for (int r = 4; r >= 0; r--) {
                Air.deliver(x, Air.REPLY, r, 0);
            }
            Check.due("the leader's, that came last", x.answer(0), 41);
            Air.stampedToAll(x, 2);
            for (int r = 0; r < 5; r++) {
                Air.deliver(x, Air.REPLY, r, 2);
            }
            Check.due("the leader's, that came first", x.answer(2), 1);
            Check.due("slot", x.client(2, 2), 3);
            Check.due("L", x.client(2, 3), 0);
            Check.due("S", x.client(2, 4), 1);
        });
    }

    /** The REPLYs of replica 1 for so many slots have come, those of the leader lie in the air, the oldest first. */
    private static OrderedWorks placed(int slots) {
        OrderedWorks x = new OrderedWorks(0, 0);
        for (int i = 0; i < slots; i++) {
            Air.stampTo(x, 0, 1, 0);
            Air.deliver(x, Air.REPLY, 1, 0);
        }
        Check.due("the leader's", Air.count(x, Air.REPLY), slots);
        return x;
    }

    private static void manyPlaces() {
        Sentence.holds("REPLY", "Of an open request 64 such places, a view and a slot, are counted", () -> {
            OrderedWorks x = placed(64);
            x.deliver(x.message(0, 0));
            Check.due("the first of 64", x.client(0, 2), 1);
            OrderedWorks y = placed(64);
            y.deliver(y.message(63, 0));
            Check.due("the last of 64", y.client(0, 2), 64);
        });
        Sentence.holds("REPLY", "with one more the one that came first is forgotten", () -> {
            OrderedWorks x = placed(65);
            x.deliver(x.message(0, 0));
            Check.due("the first of 65 is forgotten", x.client(0, 1), 1);
            OrderedWorks y = placed(65);
            y.deliver(y.message(1, 0));
            Check.due("the second is not", y.client(0, 2), 2);
            OrderedWorks z = placed(65);
            z.deliver(z.message(64, 0));
            Check.due("nor is the last", z.client(0, 2), 65);
        });
        Sentence.holds("REPLY", "and counts from nothing if it comes again", () -> {
            OrderedWorks x = placed(65);
            x.deliver(x.message(0, 0));
            Check.due("the leader's alone", x.client(0, 1), 1);
            x.deliver(x.message(0, 0));
            Check.due("by it the second was forgotten", x.client(0, 1), 1);
            x.deliver(x.message(1, 0));
            Check.due("by that the third; the fourth is there", x.client(0, 2), 4);
            OrderedWorks y = new OrderedWorks(1, 0);
            y.request(0, 1, 0, 1);
            for (int r = 0; r < 5; r++) {
                y.deliver(r);
            }
            Air.deliver(y, Air.REPLY, 1, 0);
            Air.deliver(y, Air.REPLY, 2, 0);
            for (int i = 0; i < 64; i++) {
                Air.stampTo(y, 0, 1);
                Air.deliver(y, Air.REPLY, 1, 0);
            }
            Air.deliver(y, Air.REPLY, 0, 0);
            Air.deliver(y, Air.REPLY, 3, 0);
            Check.due("two, as the two that came first are forgotten", y.client(0, 1), 1);
            Air.deliver(y, Air.REPLY, 4, 0);
            Check.due("three", y.client(0, 2), 1);
        });
        Sentence.holds("REPLY", "Of an open request 64 such places", () -> {
            OrderedWorks x = placed(40);
            x.deliver(x.message(39, 0));
            Check.due("accepted", x.client(0, 2), 40);
            Air.clear(x);
            for (int i = 0; i < 60; i++) {
                Air.stampTo(x, 0, 1, 0);
                Air.deliver(x, Air.REPLY, 1, 0);
            }
            x.deliver(x.message(0, 0));
            Check.due("the next request has 64 of its own", x.client(0, 2), 41);
        });
    }

    private static void promise19() {
        Sentence.holds("Promise 19", "Of a client: how many requests it had (what = 0)", () -> {
            OrderedWorks x = new OrderedWorks(0, 0);
            for (int had = 0; had < 5; had++) {
                Check.due("had", x.client(2, 0), had);
                x.request(2, 0, 0, 0);
                Check.due("with the open one", x.client(2, 0), had + 1);
                x.again(2);
                Check.due("again() is none more", x.client(2, 0), had + 1);
                Check.thrown("nor is a refused one", STATE, () -> x.request(2, 0, 0, 0));
                Check.due("as before", x.client(2, 0), had + 1);
                Air.settle(x);
            }
            Check.due("another one had none", x.client(1, 0), 0);
        });
        Sentence.holds("Promise 19", "0 none, 1 open, 2 ACCEPTED (1) of its latest one", () -> {
            OrderedWorks x = new OrderedWorks(0, 0);
            Check.due("none", x.client(3, 1), 0);
            x.request(3, 0, 0, 0);
            Check.due("open", x.client(3, 1), 1);
            Air.settle(x);
            Check.due("accepted", x.client(3, 1), 2);
            x.request(3, 0, 0, 0);
            Check.due("of its latest one", x.client(3, 1), 1);
            Check.due("another client's", x.client(2, 1), 0);
        });
        Sentence.holds("Promise 19", "if that is accepted its slot (2), L (3), S (4). NONE else", () -> {
            OrderedWorks x = new OrderedWorks(0, 0);
            seen(x, "without a request", 0, 0, -1, -1, -1);
            x.request(0, 0, 0, 0);
            seen(x, "open", 1, 1, -1, -1, -1);
            Air.settle(x);
            seen(x, "accepted", 1, 2, 1, 0, 1);
            x.request(0, 0, 0, 0);
            seen(x, "a later one is open", 2, 1, -1, -1, -1);
        });
        Sentence.holds("Promise 19", "NONE else, for another what, or client.", () -> {
            OrderedWorks x = new OrderedWorks(0, 0);
            Air.whole(x, 0, 0, 0, 0);
            Air.whole(x, 3, 0, 0, 0);
            for (int what : new int[] {-1, 5, Integer.MIN_VALUE, Integer.MAX_VALUE}) {
                Check.due("what = " + what, x.client(0, what), -1);
                Check.due("what = " + what + ", none yet", x.client(1, what), -1);
            }
            for (int what = -1; what < 6; what++) {
                for (int far : FAR) {
                    Check.due("client " + far, x.client(far, what), -1);
                }
                Check.due("client 4", x.client(4, what), -1);
            }
        });
    }

    private static void seen(OrderedWorks x, String what, int... due) {
        for (int i = 0; i < due.length; i++) {
            Check.due(what + ", what = " + i, x.client(0, i), due[i]);
        }
    }

    private static void promise20() {
        Sentence.holds("Promise 20", "also while a later one is open; 0 without.", () -> {
            OrderedWorks x = new OrderedWorks(0, 0);
            Check.due("without", x.answer(0), 0);
            Air.whole(x, 1, 1, 5, -7);
            x.request(0, 0, 5, 0);
            Check.due("the first one is open", x.answer(0), 0);
            Air.settle(x);
            Check.due("accepted", x.answer(0), -7);
            x.request(0, 0, 4, 0);
            Check.due("a later one is open", x.answer(0), -7);
            Air.settle(x);
            Check.due("that one is accepted", x.answer(0), 0);
            for (int far : FAR) {
                Check.due("client " + far, x.answer(far), 0);
            }
            Check.due("client 4", x.answer(4), 0);
        });
    }
}
