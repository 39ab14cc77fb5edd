/** The boundary cases of TIME, and of the promises 12 to 15: each wait is looked at one tick ahead, and when it ends. */
public final class EdgesTimeTest {
    /** The least and the most T. */
    private static final int[] WAITS = {3, 8};

    public static void main(String[] args) {
        promise12();
        promise13();
        promise14();
        promise15();
        installedByTime();
        sequencerFirst();
        turnsAgain();
        asksAgain();
        whenItAsked();
        pings();
        syncs();
        syncedEnough();
        suspectsByTime();
        whatIsHeard();
        looksUpAgain();
        orderOfReplicas();
        stampsAgain();
        Sentence.end();
    }

    private static OrderedWorks three(int wait) {
        return new OrderedWorks(0, wait - 3);
    }

    /** That many ticks, in which all PINGs are delivered, so that nobody suspects its leader. */
    private static void pass(OrderedWorks x, int ticks) {
        for (int i = 0; i < ticks; i++) {
            x.tick(1);
            for (int k = x.about(0) - 1; k >= 0; k--) {
                if (x.message(k, 1) == Air.PING) {
                    x.deliver(x.message(k, 0));
                }
            }
        }
    }

    private static void promise12() {
        Sentence.holds("Promise 12", "IllegalArgumentException: n is not 0 .. 40.", () -> {
            OrderedWorks x = three(3);
            for (int n : new int[] {-1, 41, Integer.MIN_VALUE, Integer.MAX_VALUE}) {
                Check.thrown("n = " + n, IllegalArgumentException.class, () -> x.tick(n));
            }
            Check.due("TIME stays", x.about(7), 0);
            Check.due("0", x.tick(0), 0);
            Check.due("TIME stays", x.about(7), 0);
            x.tick(40);
            Check.due("40", x.about(7), 40);
            x.tick(1);
            Check.due("1", x.about(7), 41);
        });
        Sentence.holds("Promise 12", "n ticks: how many messages were sent in them (also such as were lost at once).", () -> {
            OrderedWorks x = new OrderedWorks(1, 0);
            x.request(0, 0, 0, 0);
            for (int i = 1; i < 40; i++) {
                x.again(0);
            }
            Check.due("200 lie there", x.about(0), 200);
            Check.due("none yet", x.tick(2), 0);
            Check.due("four PINGs", x.tick(1), 4);
            Check.due("all of them lost", x.about(2), 4);
            x.lose(0);
            Check.due("four PINGs and five STAMPED", x.tick(3), 9);
            Check.due("one has the place", x.about(2), 4 + 1 + 8);
        });
        Sentence.holds("Terms", "TIME is 0 at first.", () -> Check.due("TIME", three(8).about(7), 0));
    }

    private static void promise13() {
        Sentence.holds("Promise 13", "IllegalArgumentException: n is not 0 .. 20.", () -> {
            OrderedWorks x = three(3);
            x.request(0, 0, 0, 0);
            for (int n : new int[] {-1, 21, Integer.MIN_VALUE, Integer.MAX_VALUE}) {
                Check.thrown("n = " + n, IllegalArgumentException.class, () -> x.calm(n));
            }
            Check.due("0", x.calm(0), 0);
            Check.due("TIME stays", x.about(7), 0);
            Check.due("nothing was delivered", x.about(0), 3);
            Check.due("20", x.calm(20), 1);
            Check.due("TIME", x.about(7), 20);
        });
        Sentence.holds("Promise 13", "a tick, then all messages that lie in the air then are delivered, the oldest first"
            + " (what is sent meanwhile waits)", () -> {
                OrderedWorks x = three(3);
                x.tick(2);
                Check.due("an empty air", x.calm(0), 0);
                x.request(0, 0, 0, 0);
                x.calm(1);
                Check.due("the PINGs of the tick are delivered, too", Air.count(x, Air.PING), 0);
                Check.text("the REPLYs wait, in the order of what they came of", Air.behind(x, 0), "11:0>0 11:1>0 11:2>0");
                OrderedWorks y = three(3);
                y.request(0, 1, 0, 1);
                for (int i = 1; i < 67; i++) {
                    y.again(0);
                }
                Check.due("a full air", y.about(0), 200);
                y.calm(1);
                Check.due("a REPLY of each: a place is free for it", Air.count(y, Air.REPLY), 200);
                Check.due("STAMPED of number 67 was lost to replica 2", y.replica(2, 5), 66);
            });
        Sentence.holds("Promise 13", "how many requests were ACCEPTED", () -> {
            OrderedWorks x = three(3);
            Air.whole(x, 0, 0, 0, 0);
            Air.whole(x, 1, 0, 0, 0);
            Check.due("none in it", x.calm(1), 0);
            x.request(2, 0, 0, 0);
            Check.due("not yet", x.calm(1), 0);
            Check.due("one in it, and not those before it", x.calm(1), 1);
            x.request(0, 0, 0, 0);
            x.request(1, 0, 0, 0);
            x.request(2, 0, 0, 0);
            Check.due("three", x.calm(2), 3);
            Check.due("in all", x.about(6), 6);
        });
    }

    private static void promise14() {
        Sentence.holds("Promise 14", "The sequencer is not up any more: whether it was.", () -> {
            OrderedWorks x = three(3);
            Check.yes("it was", x.fail());
            Check.yes("it was not", !x.fail());
            x.install();
            Check.yes("it was", x.fail());
            x.tick(3);
            Check.yes("installed by time", x.fail());
            Check.yes("it was not", !x.fail());
        });
    }

    private static void promise15() {
        Sentence.holds("Promise 15", "A sequencer is up (also in the place of one that is) with a SESSION one higher,"
            + " COUNT 0: that session.", () -> {
                OrderedWorks x = three(3);
                x.request(0, 0, 0, 0);
                Check.due("in the place of one", x.install(), 2);
                Check.due("COUNT", x.about(5), 0);
                Check.due("at once again", x.install(), 3);
                x.fail();
                Check.due("while it is not up", x.install(), 4);
                Check.due("up", x.about(3), 1);
                x.again(0);
                Check.text("the first number of that session", Air.tells(x, 3), "4 1 0 1 0 0 0");
            });
    }

    private static void installedByTime() {
        Sentence.holds("Tick 1", "if the sequencer is not up, and failed (fail() while it is not up is none) T ticks ago"
            + " or more, one is installed as by install()", () -> {
                for (int wait : WAITS) {
                    OrderedWorks x = three(wait);
                    x.request(0, 0, 0, 0);
                    x.tick(2);
                    x.fail();
                    x.tick(wait - 1);
                    Check.due("T - 1 ticks ago", x.about(3), 0);
                    x.fail();
                    x.tick(1);
                    Check.due("T ticks ago, and fail() between is none", x.about(3), 1);
                    Check.due("SESSION one higher", x.about(4), 2);
                    Check.due("COUNT 0", x.about(5), 0);
                    x.tick(wait);
                    Check.due("it is up: no more", x.about(4), 2);
                    x.fail();
                    x.install();
                    x.fail();
                    x.tick(wait - 1);
                    Check.due("T - 1 ticks ago", x.about(3), 0);
                    x.tick(1);
                    Check.due("T ticks ago", x.about(4), 4);
                }
            });
        Sentence.holds("Tick 1", "failed (fail() while it is not up is none) T ticks ago or more", () -> {
            OrderedWorks x = three(3);
            x.fail();
            x.tick(1);
            x.install();
            x.tick(1);
            x.fail();
            x.tick(2);
            Check.due("the later fail() counts", x.about(3), 0);
            x.tick(1);
            Check.due("T after it", x.about(3), 1);
        });
    }

    private static void sequencerFirst() {
        Sentence.holds("Tick", "A TICK: TIME is one more, then", () -> {
            OrderedWorks x = three(3);
            x.request(0, 0, 0, 0);
            Air.clear(x);
            x.tick(3);
            x.fail();
            Air.clear(x);
            x.tick(3);
            Check.due("1 is ahead of 3: it is stamped by the new one", x.about(5), 1);
            Check.text("in its session", Air.tells(x, Air.STAMPED, -1, 0), "2 1 0 1 0 0 0");
            Check.text("2 is ahead of 3", Air.behind(x, x.about(0) - 5), "12:0>1 12:0>2 0:-1>0 0:-1>1 0:-1>2");
        });
    }

    private static void turnsAgain() {
        Sentence.holds("Tick 2", "it is in CHANGE, and TURNED 4 T ticks ago or more: it TURNS to (L + 1, S)", () -> {
            for (int wait : WAITS) {
                OrderedWorks x = three(wait);
                x.down(2);
                x.tick(1);
                x.suspect(1);
                for (int i = 1; i < 4 * wait; i++) {
                    x.tick(1);
                    Check.due("not yet", x.replica(1, 2), 1);
                }
                Air.clear(x);
                x.tick(1);
                Check.text("4 T ticks ago", Air.view(x, 1), "(2, 1) CHANGE");
                Check.text("the first that holds alone is done", Air.behind(x, x.about(0) - 3), "8:1>0 8:1>2 9:1>2");
                Check.due("it is not nudged, too", Air.count(x, Air.TURN), 2);
            }
        });
        Sentence.holds("TIME", "when it TURNED latest", () -> {
            OrderedWorks x = three(3);
            x.down(2);
            x.suspect(1);
            x.tick(5);
            x.nudge(1);
            x.tick(6);
            Check.due("11 ticks", x.replica(1, 2), 1);
            x.suspect(1);
            x.tick(11);
            Check.due("nudge() is no turning, suspect() is one", x.replica(1, 2), 2);
            x.tick(1);
            Check.due("4 T after it", x.replica(1, 2), 3);
        });
    }

    private static void asksAgain() {
        Sentence.holds("Tick 2", "it is in CHANGE or GAP, and ASKED T ticks ago or more: as by nudge()", () -> {
            for (int wait : WAITS) {
                OrderedWorks x = three(wait);
                x.tick(1);
                x.suspect(1);
                Air.clear(x);
                x.tick(wait - 1);
                Check.due("CHANGE, T - 1 ticks ago", Air.count(x, Air.TURN), 0);
                x.tick(1);
                Check.due("T ticks ago", Air.count(x, Air.TURN), 2);
                OrderedWorks y = gapAt(wait, 1);
                pass(y, wait - 1);
                Check.due("GAP, T - 1 ticks ago", Air.count(y, Air.GAP_COMMIT), 0);
                pass(y, 1);
                Check.due("T ticks ago", Air.count(y, Air.GAP_COMMIT), 2);
                Air.clear(y);
                pass(y, wait - 1);
                Check.due("and that was asking, too", Air.count(y, Air.GAP_COMMIT), 0);
                pass(y, 1);
                Check.due("T ticks later", Air.count(y, Air.GAP_COMMIT), 2);
            }
        });
    }

    /** The leader came to be in GAP at that time; nothing lies in the air. */
    private static OrderedWorks gapAt(int wait, int time) {
        OrderedWorks x = three(wait);
        pass(x, time);
        x.request(0, 0, 0, 0);
        Air.clear(x);
        Air.stampTo(x, 0, 0);
        Check.text("GAP", Air.view(x, 0), "(0, 1) GAP");
        Air.clear(x);
        return x;
    }

    private static void whenItAsked() {
        Sentence.holds("TIME", "when it ASKED (it TURNS, comes to be in GAP, sends LOOKUP, or asks in GAP or CHANGE as by"
            + " nudge(), by 2 too)", () -> {
                OrderedWorks gap = gapAt(3, 1);
                pass(gap, 2);
                gap.nudge(0);
                Air.clear(gap);
                pass(gap, 2);
                Check.due("nudge() in GAP is asking", Air.count(gap, Air.GAP_COMMIT), 0);
                pass(gap, 1);
                Check.due("T after it", Air.count(gap, Air.GAP_COMMIT), 2);
                OrderedWorks change = three(3);
                change.tick(1);
                change.suspect(1);
                change.tick(2);
                change.nudge(1);
                Air.clear(change);
                change.tick(2);
                Check.due("nudge() in CHANGE is asking", Air.count(change, Air.TURN), 0);
                change.tick(1);
                Check.due("T after it", Air.count(change, Air.TURN), 2);
                change.suspect(1);
                Air.clear(change);
                change.tick(2);
                Check.due("turning is asking", Air.place(change, Air.TURN, 1, 0), -1);
                change.tick(1);
                Check.yes("T after it", Air.place(change, Air.TURN, 1, 0) >= 0);
            });
    }

    private static void pings() {
        Sentence.holds("Tick 2", "it leads, is not in CHANGE, and SPOKE T ticks ago or more: PING (view) is sent to all"
            + " others", () -> {
                for (int wait : WAITS) {
                    OrderedWorks x = three(wait);
                    Check.due("T - 1 ticks", x.tick(wait - 1), 0);
                    Check.due("T ticks", x.tick(1), 2);
                    Check.text("PING to all others", Air.behind(x, 0), "12:0>1 12:0>2");
                    Check.due("T - 1 ticks later", x.tick(wait - 1), 0);
                    Check.due("T ticks later", x.tick(1), 2);
                }
                OrderedWorks gap = gapAt(3, 1);
                gap.tick(2);
                Check.due("in GAP, too", Air.count(gap, Air.PING), 2);
                OrderedWorks change = three(3);
                change.suspect(1);
                change.tick(11);
                Check.text("it leads", Air.view(change, 1), "(1, 1) CHANGE");
                Check.due("not in CHANGE, though it leads", Air.place(change, Air.PING, 1, 0), -1);
            });
        Sentence.holds("Tick 2", "the first of these that holds is done, and what is told with it", () -> {
            OrderedWorks x = gapAt(3, 0);
            pass(x, 3);
            Check.due("at T it ASKED and SPOKE T ticks ago", Air.count(x, Air.GAP_COMMIT), 2);
            Check.due("it asks alone", x.about(0), 2);
            x.tick(1);
            Check.due("PING comes a tick later", Air.count(x, Air.PING), 2);
        });
        Sentence.holds("TIME", "when it SPOKE latest (by 2)", () -> {
            OrderedWorks x = three(3);
            x.tick(2);
            x.sync(0);
            Air.clear(x);
            x.tick(1);
            Check.due("sync() is not speaking", Air.count(x, Air.PING), 2);
        });
    }

    private static void syncs() {
        Sentence.holds("Tick 2", "it leads, is NORMAL, its log is longer than POINT, and it SYNCED 4 T ticks ago or more: as"
            + " by sync()", () -> {
                for (int wait : WAITS) {
                    OrderedWorks x = three(wait);
                    Air.whole(x, 0, 1, 0, 1);
                    pass(x, 1);
                    x.sync(0);
                    Air.clear(x);
                    pass(x, 4 * wait - 1);
                    Check.due("4 T - 1 ticks ago", Air.count(x, Air.SYNC), 0);
                    pass(x, 1);
                    Check.text("4 T ticks ago", Air.behind(x, 0), "5:0>1 5:0>2");
                    Air.clear(x);
                    pass(x, 4 * wait - 1);
                    Check.due("4 T - 1 ticks after that", Air.count(x, Air.SYNC), 0);
                    pass(x, 1);
                    Check.due("4 T ticks after that", Air.count(x, Air.SYNC), 2);
                }
            });
        Sentence.holds("TIME", "when it sent SYNC latest (by sync(), by 2 too); 0 at first, all of them", () -> {
            OrderedWorks x = three(3);
            Air.whole(x, 0, 1, 0, 1);
            pass(x, 12);
            Check.due("4 T ticks, but a PING is due", Air.count(x, Air.SYNC), 0);
            pass(x, 1);
            Check.due("a tick later", Air.count(x, Air.SYNC), 2);
        });
    }

    private static void syncedEnough() {
        Sentence.holds("Tick 2", "its log is longer than POINT", () -> {
            OrderedWorks x = three(3);
            pass(x, 14);
            Check.due("an empty log", x.about(0), 0);
            Air.whole(x, 0, 1, 0, 1);
            x.sync(0);
            Air.settle(x);
            Check.due("POINT", x.replica(0, 6), 1);
            pass(x, 30);
            Check.due("as long as POINT", Air.count(x, Air.SYNC), 0);
            x.request(1, 1, 0, 1);
            x.flow(6);
            pass(x, 2);
            Check.due("one longer", Air.count(x, Air.SYNC), 2);
            OrderedWorks gap = gapAt(3, 1);
            pass(gap, 30);
            Check.due("in GAP none", Air.count(gap, Air.SYNC), 0);
            OrderedWorks follower = three(3);
            Air.whole(follower, 0, 1, 0, 1);
            pass(follower, 30);
            Check.due("one that does not lead sends none", Air.place(follower, Air.SYNC, 1, 0), -1);
        });
    }

    private static void suspectsByTime() {
        Sentence.holds("Tick 2", "it does not lead, is NORMAL, and HEARD its leader 3 T ticks ago or more: it TURNS to"
            + " (L + 1, S)", () -> {
                for (int wait : WAITS) {
                    OrderedWorks x = three(wait);
                    x.tick(3 * wait - 1);
                    Check.text("3 T - 1 ticks", Air.view(x, 1), "(0, 1) NORMAL");
                    Air.deliver(x, Air.PING, 0, 2);
                    x.tick(1);
                    Check.text("3 T ticks", Air.view(x, 1), "(1, 1) CHANGE");
                    Check.text("it heard a PING", Air.view(x, 2), "(0, 1) NORMAL");
                    Check.text("the leader hears itself", Air.view(x, 0), "(0, 1) NORMAL");
                    x.tick(3 * wait - 2);
                    Check.text("3 T - 1 ticks after it", Air.view(x, 2), "(0, 1) NORMAL");
                    x.tick(1);
                    Check.text("3 T ticks after it", Air.view(x, 2), "(1, 1) CHANGE");
                }
            });
        Sentence.holds("Tick 2", "of each replica, from 0 on, that is not DOWN", () -> {
            OrderedWorks x = three(3);
            x.down(1);
            x.tick(40);
            Check.text("DOWN", Air.view(x, 1), "(0, 1) NORMAL");
            OrderedWorks y = three(3);
            y.down(0);
            Check.due("a leader that is DOWN does not speak", y.tick(8), 0);
            OrderedWorks z = three(3);
            z.suspect(1);
            z.down(1);
            z.tick(12);
            Check.due("nor does one in CHANGE turn", z.replica(1, 2), 1);
        });
        Sentence.holds("TIME", "also when it becomes NORMAL by MERGING or START, or comes up", () -> {
            OrderedWorks x = three(3);
            x.down(1);
            x.tick(7);
            x.up(1);
            x.tick(8);
            Check.text("3 T - 1 ticks after it came up", Air.view(x, 1), "(0, 1) NORMAL");
            x.tick(1);
            Check.text("3 T ticks after it came up", Air.view(x, 1), "(1, 1) CHANGE");
            OrderedWorks y = three(3);
            y.suspect(1);
            y.suspect(2);
            y.tick(5);
            Air.deliver(y, Air.TURNED, 2, 1);
            Air.deliver(y, Air.START, 1, 2);
            y.tick(8);
            Check.text("3 T - 1 ticks after START", Air.view(y, 2), "(1, 1) NORMAL");
            y.tick(1);
            Check.text("3 T ticks after START", Air.view(y, 2), "(2, 1) CHANGE");
            Check.text("the one that merged leads, and stays", Air.view(y, 1), "(1, 1) NORMAL");
            OrderedWorks z = three(3);
            z.suspect(1);
            z.suspect(2);
            z.tick(7);
            Air.deliver(z, Air.TURNED, 2, 1);
            Air.deliver(z, Air.START, 1, 0);
            Check.text("it was NORMAL in a view behind", Air.view(z, 0), "(1, 1) NORMAL");
            z.tick(8);
            Check.text("3 T - 1 ticks after START", Air.view(z, 0), "(1, 1) NORMAL");
            z.tick(1);
            Check.text("3 T ticks after START", Air.view(z, 0), "(2, 1) CHANGE");
        });
    }

    private interface Making {
        void go(OrderedWorks x);
    }

    /** Whether replica 1 hears its leader by that message, delivered a tick ahead of 3 T. */
    private static void hears(String what, boolean due, int kind, int from, Making making) {
        OrderedWorks x = three(8);
        making.go(x);
        int number = Air.last(x, kind, from, 1);
        x.tick(23);
        Check.text(what + ", ahead of 3 T", Air.view(x, 1).substring(7), "NORMAL");
        x.deliver(number);
        x.tick(1);
        Check.text(what, Air.view(x, 1).substring(7), due ? "NORMAL" : "CHANGE");
    }

    private static void whatIsHeard() {
        Sentence.holds("TIME", "a message is delivered to it that tells its view", () -> {
            hears("SYNC", true, Air.SYNC, 0, x -> x.sync(0));
            hears("SYNC of more than it has", true, Air.SYNC, 0, x -> {
                Air.stampTo(x, 0, 0);
                x.sync(0);
            });
            hears("POINT of what is not SYNCED", true, Air.POINT, 0, x -> {
                Air.stampTo(x, 0, 0, 1, 2);
                x.sync(0);
                Air.deliver(x, Air.SYNC, 0, 2);
                Air.deliver(x, Air.SYNC_REPLY, 2, 0);
            });
            hears("GAP COMMIT", true, Air.GAP_COMMIT, 0, x -> {
                x.request(0, 0, 0, 0);
                Air.stampTo(x, 0, 0);
            });
            hears("FOUND", true, Air.FOUND, 0, x -> {
                Air.stampTo(x, 0, 0);
                Air.stampTo(x, 0, 1);
                Air.deliver(x, Air.LOOKUP, 1, 0);
            });
            hears("STAMPED tells no view", false, Air.STAMPED, -1, x -> x.request(0, 0, 0, 0));
        });
        Sentence.holds("TIME", "from that view's leader", () -> {
            OrderedWorks x = new OrderedWorks(1, 0);
            for (int r = 1; r < 5; r++) {
                x.suspect(r);
            }
            Air.deliver(x, Air.TURNED, 2, 1);
            Air.deliver(x, Air.TURNED, 3, 1);
            Air.deliver(x, Air.START, 1, 2);
            Air.deliver(x, Air.START, 1, 3);
            x.tick(8);
            Air.deliver(x, Air.TURN, 4, 2);
            Air.deliver(x, Air.TURN, 1, 3);
            x.tick(1);
            Check.text("TURN of its view by one that does not lead", Air.view(x, 2), "(2, 1) CHANGE");
            Check.text("TURN of its view by its leader", Air.view(x, 3), "(1, 1) NORMAL");
        });
        Sentence.holds("TIME", "tells its view, of TURNED the first one, as that is ahead of what comes of the message", () -> {
            OrderedWorks x = three(3);
            x.tick(3);
            int old = Air.number(x, Air.PING, 0, 2);
            x.suspect(1);
            x.suspect(2);
            Air.deliver(x, Air.TURNED, 2, 1);
            Air.deliver(x, Air.START, 1, 2);
            x.tick(8);
            x.deliver(old);
            x.tick(1);
            Check.text("PING of a view that was its own once", Air.view(x, 2), "(2, 1) CHANGE");
            OrderedWorks y = three(3);
            y.tick(3);
            int first = Air.number(y, Air.PING, 0, 2);
            for (int i = 0; i < 3; i++) {
                y.suspect(0);
                y.suspect(2);
            }
            y.deliver(Air.last(y, Air.TURNED, 2, 0));
            Air.deliver(y, Air.START, 0, 2);
            Check.text("0 leads again", Air.view(y, 2), "(3, 1) NORMAL");
            y.tick(8);
            y.deliver(first);
            y.tick(1);
            Check.text("PING of that view, by the one that leads again", Air.view(y, 2), "(4, 1) CHANGE");
        });
    }

    private static void looksUpAgain() {
        Sentence.holds("Tick 2", "it does not lead, is NORMAL, has some HELD, and ASKED T ticks ago or more: as by nudge()",
            () -> {
                for (int wait : WAITS) {
                    OrderedWorks x = three(wait);
                    pass(x, 1);
                    x.request(0, 0, 0, 0);
                    Air.clear(x);
                    Air.stampTo(x, 0, 2);
                    Check.due("LOOKUP", Air.count(x, Air.LOOKUP), 1);
                    Air.clear(x);
                    pass(x, wait - 1);
                    Check.due("T - 1 ticks ago", Air.count(x, Air.LOOKUP), 0);
                    pass(x, 1);
                    Check.due("T ticks ago", Air.count(x, Air.LOOKUP), 1);
                    pass(x, wait - 1);
                    Check.due("that was asking, too", Air.count(x, Air.LOOKUP), 1);
                    x.nudge(2);
                    Air.clear(x);
                    pass(x, wait - 1);
                    Check.due("so is nudge()", Air.count(x, Air.LOOKUP), 0);
                    pass(x, 1);
                    Check.due("T ticks after it", Air.count(x, Air.LOOKUP), 1);
                }
                OrderedWorks x = three(3);
                pass(x, 20);
                Check.due("without any HELD nothing is asked", x.about(1), 2 * 6);
            });
        Sentence.holds("Tick 2", "HEARD its leader 3 T ticks ago or more: it TURNS to (L + 1, S); it does not lead", () -> {
            OrderedWorks x = three(3);
            x.request(0, 0, 0, 0);
            Air.stampTo(x, 0, 2);
            x.tick(8);
            Air.clear(x);
            x.tick(1);
            Check.text("to suspect is ahead of asking", Air.view(x, 2), "(1, 1) CHANGE");
            Check.due("no LOOKUP", Air.count(x, Air.LOOKUP), 0);
        });
    }

    private static void orderOfReplicas() {
        Sentence.holds("Tick 2", "of each replica, from 0 on", () -> {
            OrderedWorks x = three(3);
            x.tick(8);
            Air.clear(x);
            x.tick(1);
            Check.text("PING, then the others turn", Air.behind(x, 0),
                "12:0>1 12:0>2 8:1>0 8:1>2 8:2>0 8:2>1 9:2>1");
        });
    }

    private static void stampsAgain() {
        Sentence.holds("Tick 3", "of each client, from 0 on, whose request is open, and was stamped latest (also in vain,"
            + " while the sequencer was not up) 2 T ticks ago or more: it is stamped again.", () -> {
                for (int wait : WAITS) {
                    OrderedWorks x = three(wait);
                    pass(x, 1);
                    x.request(3, 0, 0, 0);
                    x.request(0, 0, 0, 0);
                    Air.clear(x);
                    pass(x, 2 * wait - 1);
                    Check.due("2 T - 1 ticks ago", x.about(5), 2);
                    pass(x, 1);
                    Check.due("2 T ticks ago", x.about(5), 4);
                    Check.text("client 0 first", Air.tells(x, 0).substring(0, 5), "1 3 0");
                    Check.text("then client 3", Air.tells(x, 3).substring(0, 5), "1 4 3");
                    pass(x, 1);
                    x.again(3);
                    Air.clear(x);
                    pass(x, 2 * wait - 1);
                    Check.due("client 0 alone", x.about(5), 6);
                    pass(x, 1);
                    Check.due("2 T ticks after again()", x.about(5), 7);
                }
            });
        Sentence.holds("Tick 3", "(also in vain, while the sequencer was not up)", () -> {
            OrderedWorks x = three(3);
            x.request(0, 0, 0, 0);
            Air.clear(x);
            pass(x, 5);
            x.fail();
            pass(x, 2);
            Check.due("stamped in vain at 6", x.about(5), 1);
            pass(x, 1);
            Check.due("installed at 8", x.about(4), 2);
            pass(x, 3);
            Check.due("5 ticks after 6", x.about(5), 0);
            pass(x, 1);
            Check.due("6 ticks after 6", x.about(5), 1);
        });
        Sentence.holds("Tick 3", "whose request is open", () -> {
            OrderedWorks x = three(3);
            Air.whole(x, 0, 0, 0, 0);
            pass(x, 20);
            Check.due("an accepted one is not stamped again", x.about(5), 1);
        });
    }
}
