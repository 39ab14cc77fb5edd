/** The boundary cases that the document names of THE AIR, and of the promises 4, 5, 6, 21 and 22. */
public final class EdgesAirTest {
    private static final int[] FAR = {-1, -2, Integer.MIN_VALUE, Integer.MAX_VALUE};

    public static void main(String[] args) {
        numbers();
        room();
        downAndOthers();
        promises4and5();
        promise6();
        promise21();
        promise22();
        kinds();
        Sentence.end();
    }

    /** Five replicas, and exactly 200 messages in the air: 40 stamps. */
    private static OrderedWorks full() {
        OrderedWorks x = new OrderedWorks(1, 0);
        x.request(0, 2, 0, 1);
        for (int i = 1; i < 40; i++) {
            x.again(0);
        }
        return x;
    }

    private static void numbers() {
        Sentence.holds("Terms", "numbered from 0 on as it is sent, until it is delivered or lost", () -> {
            OrderedWorks x = new OrderedWorks(0, 0);
            Check.due("none was sent", x.about(1), 0);
            x.request(0, 1, 0, 1);
            for (int k = 0; k < 3; k++) {
                Check.due("number", x.message(k, 0), k);
            }
            x.deliver(0);
            Check.due("what comes of it has the next number", x.message(2, 0), 3);
            Check.due("the delivered one lies there no more", x.message(0, 0), 1);
            x.lose(1);
            Check.due("nor the lost one", x.message(0, 0), 2);
            x.again(0);
            Check.due("a number is not used twice", x.message(2, 0), 4);
        });
    }

    private static void room() {
        Sentence.holds("Terms", "At most 200 lie there", () -> {
            OrderedWorks x = full();
            Check.due("200 lie there", x.about(0), 200);
            Check.due("none of them is lost", x.about(2), 0);
            Check.due("the last one can be seen", x.message(199, 0), 199);
            x.again(0);
            Check.due("not 201", x.about(0), 200);
            Check.due("none behind the last", x.message(200, 0), -1);
        });
        Sentence.holds("Terms", "what is sent beyond is lost at once (and has its number)", () -> {
            OrderedWorks x = full();
            x.again(0);
            Check.due("five were sent beyond", x.about(1), 205);
            Check.due("they are lost", x.about(2), 5);
            Check.due("the newest that lies there stays", x.message(199, 0), 199);
            Check.thrown("one that was lost at once", IllegalArgumentException.class, () -> x.deliver(200));
            Check.thrown("nor can it be lost again", IllegalArgumentException.class, () -> x.lose(204));
            Check.due("COUNT grew all the same", x.about(5), 41);
            x.lose(100);
            x.again(0);
            Check.due("the one place goes to the first that is sent", x.message(199, 3), 0);
            Check.due("which has the number behind the lost ones", x.message(199, 0), 205);
            Check.due("four more are lost", x.about(2), 10);
        });
        Sentence.holds("Terms", "until it is delivered or lost. At most 200 lie there", () -> {
            OrderedWorks x = full();
            x.deliver(0);
            Check.due("its place is free for the REPLY that comes of it", x.message(199, 1), Air.REPLY);
            Check.due("200 again", x.about(0), 200);
            Check.due("nothing is lost", x.about(2), 0);
        });
        wrappedRing();
    }

    /** Far more than 256 messages go through the air, taken from its middle and its ends: their order stays. */
    private static void wrappedRing() {
        Sentence.holds("Promise 22", "The k-th oldest message in the air (0 on): its number (what = 0)", () -> {
            OrderedWorks x = full();
            for (int i = 0; i < 400; i++) {
                int k = i % 4 == 0 ? 0 : i % 4 == 1 ? x.about(0) - 1 : i * 37 % x.about(0);
                x.lose(x.message(k, 0));
                if (i % 5 == 4) {
                    x.again(0);
                }
            }
            Check.due("200 lie there", x.about(0), 200);
            Check.due("sent", x.about(1), 600);
            for (int k = 1; k < 200; k++) {
                Check.yes("the older one first", x.message(k - 1, 0) < x.message(k, 0));
                Check.due("to whom it was sent", x.message(k, 3), x.message(k, 0) % 5);
                Check.text("what it tells", Air.tells(x, k), "1 " + (x.message(k, 0) / 5 + 1) + " 0 1 2 0 1");
            }
        });
    }

    private static void downAndOthers() {
        Sentence.holds("Terms", "What is delivered to a replica that is DOWN is lost (it is gone from the air).", () -> {
            OrderedWorks x = new OrderedWorks(0, 0);
            x.request(0, 1, 0, 1);
            x.down(1);
            Check.due("while it lies there it is not lost", x.about(2), 0);
            x.deliver(1);
            Check.due("lost", x.about(2), 1);
            Check.due("gone", x.about(0), 2);
            Check.due("nothing came of it", x.about(1), 3);
            Check.thrown("gone", IllegalArgumentException.class, () -> x.deliver(1));
            x.up(1);
            Check.due("it has it not when it is up again", x.replica(1, 5), 0);
            x.again(0);
            x.down(1);
            x.up(1);
            x.deliver(4);
            Check.due("it is delivered to one that is up again", x.replica(1, 7), 1);
        });
        Sentence.holds("Terms", "To ALL OTHERS is sent in the order of their numbers.", () -> {
            for (int from = 0; from < 5; from++) {
                OrderedWorks x = new OrderedWorks(1, 0);
                x.suspect(from);
                int k = 0;
                for (int to = 0; to < 5; to++) {
                    if (to != from) {
                        Check.due("to", x.message(k, 3), to);
                        k++;
                    }
                }
                Check.due("four TURNs", Air.count(x, Air.TURN), 4);
            }
        });
    }

    private static void promises4and5() {
        Sentence.holds("Promise 4", "A message is delivered. IllegalArgumentException: it is not in the air.", () -> {
            notThere((x, number) -> x.deliver(number));
        });
        Sentence.holds("Promise 5", "A message is lost. IllegalArgumentException: it is not in the air.", () -> {
            notThere((x, number) -> x.lose(number));
        });
        Sentence.holds("Promise 5", "A message is lost.", () -> {
            OrderedWorks x = new OrderedWorks(0, 0);
            x.request(0, 1, 0, 1);
            x.lose(2);
            x.lose(0);
            Check.due("the first and the last", x.about(2), 2);
            Check.due("the middle one stays", x.message(0, 0), 1);
            x.lose(1);
            Check.due("the only one", x.about(0), 0);
        });
    }

    private interface ByNumber {
        void go(OrderedWorks x, int number);
    }

    private static void notThere(ByNumber call) {
        Class<?> want = IllegalArgumentException.class;
        OrderedWorks empty = new OrderedWorks(0, 0);
        Check.thrown("an empty air", want, () -> call.go(empty, 0));
        OrderedWorks x = new OrderedWorks(0, 0);
        x.request(0, 1, 0, 1);
        x.deliver(1);
        x.lose(2);
        for (int far : FAR) {
            Check.thrown("never sent", want, () -> call.go(x, far));
        }
        Check.thrown("delivered", want, () -> call.go(x, 1));
        Check.thrown("lost", want, () -> call.go(x, 2));
        Check.thrown("not sent yet", want, () -> call.go(x, 4));
        Check.due("what lies there stays", x.about(0), 2);
        Check.due("nothing more is lost", x.about(2), 1);
        call.go(x, 3);
        call.go(x, 0);
        OrderedWorks y = full();
        y.again(0);
        Check.thrown("lost at once", want, () -> call.go(y, 200));
        call.go(y, 199);
    }

    private static void promise6() {
        Sentence.holds("Promise 6", "IllegalArgumentException: n is not 0 .. 40.", () -> {
            OrderedWorks x = full();
            for (int n : new int[] {-1, 41, Integer.MIN_VALUE, Integer.MAX_VALUE}) {
                Check.thrown("n = " + n, IllegalArgumentException.class, () -> x.flow(n));
            }
            Check.due("nothing was delivered", x.message(0, 0), 0);
            Check.due("0", x.flow(0), 0);
            Check.due("nothing was delivered", x.message(0, 0), 0);
            Check.due("1", x.flow(1), 1);
            Check.due("40", x.flow(40), 40);
            Check.due("41 were delivered", x.message(0, 0), 41);
        });
        Sentence.holds("Promise 6", "as long as there is one; also such as come by it", () -> {
            OrderedWorks x = new OrderedWorks(0, 0);
            Check.due("an empty air", x.flow(40), 0);
            x.request(0, 1, 0, 1);
            Check.due("three, and three REPLYs that come by them", x.flow(40), 6);
            Check.due("none is left", x.about(0), 0);
            x.request(1, 1, 0, 1);
            Check.due("just as many as there are", x.flow(6), 6);
            x.request(2, 1, 0, 1);
            Check.due("fewer than there are", x.flow(5), 5);
            Check.due("one is left", x.about(0), 1);
        });
        Sentence.holds("Promise 6", "and to a replica that is DOWN): how many", () -> {
            OrderedWorks x = new OrderedWorks(0, 0);
            x.request(0, 1, 0, 1);
            x.down(0);
            Check.due("that to the DOWN one counts", x.flow(1), 1);
            Check.due("and is lost", x.about(2), 1);
            Check.due("the next one is another", x.flow(1), 1);
            Check.due("which is not", x.about(2), 1);
        });
    }

    private static void promise21() {
        Sentence.holds("Promise 21", "were lost in any way (2)", () -> {
            OrderedWorks x = full();
            Check.due("none", x.about(2), 0);
            x.lose(7);
            Check.due("by lose()", x.about(2), 1);
            x.down(3);
            x.deliver(3);
            Check.due("by a replica that is DOWN", x.about(2), 2);
            x.again(0);
            Check.due("by an air that is full", x.about(2), 5);
            Check.due("sent in all", x.about(1), 205);
            Check.due("they lie there", x.about(0), 200);
            x.deliver(0);
            Check.due("not by being delivered", x.about(2), 5);
        });
        Sentence.holds("Promise 21", "How many messages lie in the air (what = 0), were sent in all (1)", () -> {
            OrderedWorks x = new OrderedWorks(0, 0);
            Check.due("an empty air", x.about(0), 0);
            Air.whole(x, 0, 0, 0, 0);
            Check.due("empty again", x.about(0), 0);
            Check.due("six were sent", x.about(1), 6);
        });
        Sentence.holds("Promise 21", "requests that were ACCEPTED (6), TIME (7), T (8)", () -> {
            OrderedWorks x = new OrderedWorks(0, 5);
            for (int accepted = 0; accepted < 4; accepted++) {
                Check.due("ACCEPTED", x.about(6), accepted);
                Check.due("TIME", x.about(7), 2 * accepted);
                Air.whole(x, accepted, 0, 0, 0);
                x.tick(2);
            }
            Check.due("T", x.about(8), 8);
        });
        Sentence.holds("Promise 21", "NONE for another what.", () -> {
            OrderedWorks x = full();
            for (int what : new int[] {-1, 9, 10, Integer.MIN_VALUE, Integer.MAX_VALUE}) {
                Check.due("what = " + what, x.about(what), -1);
            }
            Check.due("8 is the last", x.about(8), 3);
        });
        Sentence.holds("Promise 21", "1 if the sequencer is up, else 0 (3), its SESSION (4), COUNT (5)", () -> {
            OrderedWorks x = full();
            Check.due("up", x.about(3), 1);
            Check.due("COUNT", x.about(5), 40);
            x.fail();
            Check.due("not up", x.about(3), 0);
            Check.due("SESSION stays", x.about(4), 1);
            Check.due("COUNT stays", x.about(5), 40);
            x.install();
            Check.due("SESSION", x.about(4), 2);
            Check.due("COUNT", x.about(5), 0);
        });
    }

    private static void promise22() {
        Sentence.holds("Promise 22", "NONE if there is none such, or for another what.", () -> {
            OrderedWorks empty = new OrderedWorks(0, 0);
            OrderedWorks x = full();
            for (int what = 0; what < 4; what++) {
                Check.due("an empty air", empty.message(0, what), -1);
                Check.due("behind the last", x.message(200, what), -1);
                for (int far : FAR) {
                    Check.due("k = " + far, x.message(far, what), -1);
                }
            }
            for (int what : new int[] {-1, 4, 5, Integer.MIN_VALUE, Integer.MAX_VALUE}) {
                Check.due("what = " + what, x.message(0, what), -1);
                Check.due("what = " + what, x.message(199, what), -1);
            }
        });
        Sentence.holds("Promise 22", "from (2; a replica, NONE by the sequencer), to (3; a replica, of REPLY a client)",
            () -> {
                OrderedWorks x = new OrderedWorks(2, 0);
                x.request(3, 1, 0, 1);
                Check.due("by the sequencer", x.message(0, 2), -1);
                Check.due("to the first replica", x.message(0, 3), 0);
                Check.due("to the last replica", x.message(6, 3), 6);
                x.deliver(6);
                Check.due("by the last replica", x.message(6, 2), 6);
                Check.due("to the last client", x.message(6, 3), 3);
            });
    }

    /** Each KIND once, in an object that sends them all. */
    private static void kinds() {
        Sentence.holds("Promise 22", "KIND (1: 0 STAMPED, 1 LOOKUP, 2 FOUND, 3 GAP COMMIT, 4 GAP REPLY, 5 SYNC,"
            + " 6 SYNC REPLY, 7 POINT, 8 TURN, 9 TURNED, 10 START, 11 REPLY, 12 PING)", () -> {
                OrderedWorks x = new OrderedWorks(0, 0);
                newest(x, () -> x.request(0, 1, 0, 1), "0:-1>2");
                newest(x, () -> x.deliver(0), "11:0>0");
                Air.clear(x);
                newest(x, () -> Air.stampTo(x, 0, 1), "1:1>0");
                newest(x, () -> Air.deliver(x, Air.LOOKUP, 1, 0), "2:0>1");
                Air.deliver(x, Air.FOUND, 0, 1);
                Air.clear(x);
                x.again(0);
                Air.clear(x);
                newest(x, () -> Air.stampTo(x, 0, 0), "3:0>2");
                newest(x, () -> Air.deliver(x, Air.GAP_COMMIT, 0, 1), "4:1>0");
                Air.stamp(x, 0);
                Air.settle(x);
                newest(x, () -> x.sync(0), "5:0>2");
                newest(x, () -> Air.deliver(x, Air.SYNC, 0, 1), "6:1>0");
                newest(x, () -> Air.deliver(x, Air.SYNC_REPLY, 1, 0), "7:0>2");
                newest(x, () -> x.tick(3), "12:0>2");
                x.suspect(1);
                Check.due("TURN", x.message(x.about(0) - 1, 1), 8);
                newest(x, () -> x.suspect(2), "9:2>1");
                newest(x, () -> Air.deliver(x, Air.TURNED, 2, 1), "10:1>2");
            });
    }

    private static void newest(OrderedWorks x, Check.Act act, String want) {
        act.go();
        Check.text("the newest message", Air.behind(x, x.about(0) - 1), want);
    }
}
