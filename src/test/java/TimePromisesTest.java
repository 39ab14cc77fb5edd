/** Promises 12 to 15: ticks, what is done in them and when, and the sequencer. */
public final class TimePromisesTest {
    public static void main(String[] args) {
        promise12();
        askingAgain();
        changing();
        stampingAgain();
        promise13();
        promise14();
        promise15();
        Check.end();
    }

    private static void promise12() {
        OrderedWorks x = new OrderedWorks(0, 0);
        Check.thrown("-1", IllegalArgumentException.class, () -> x.tick(-1));
        Check.thrown("41", IllegalArgumentException.class, () -> x.tick(41));
        Check.due("0", x.tick(0), 0);
        Check.due("TIME", x.about(7), 0);
        Check.due("nothing ahead of T", x.tick(2), 0);
        Check.due("PING at T", x.tick(1), 2);
        Check.due("TIME", x.about(7), 3);
        Check.due("PING", x.message(0, 1), Air.PING);
        Check.due("to all others", x.message(1, 3), 2);
        Check.yes("its view", Air.tells(x, 0).equals("0 1"));
        Check.due("and at 2 T", x.tick(3), 2);
        Check.due("at 3 T the others have not heard their leader", x.tick(2), 0);
        Check.due("PING, and each of two TURNs", x.tick(1), 2 + 2 + 3);
        Check.due("a new lead", x.replica(1, 2), 1);
        Check.due("a new lead", x.replica(2, 2), 1);
        Check.due("the leader stays", x.replica(0, 2), 0);
        OrderedWorks y = new OrderedWorks(0, 0);
        y.tick(8);
        y.deliver(0);
        Check.due("only who heard nothing turns: PING, TURN, TURNED", y.tick(1), 2 + 3);
        Check.due("it heard", y.replica(1, 1), 0);
        Check.due("it did not", y.replica(2, 1), 2);
        OrderedWorks z = new OrderedWorks(0, 0);
        z.tick(8);
        z.down(2);
        z.up(2);
        z.tick(1);
        Check.due("coming up is hearing", z.replica(2, 1), 0);
        Check.due("the other one turns", z.replica(1, 1), 2);
        Check.due("40", new OrderedWorks(0, 5).tick(40) > 0 ? 1 : 0, 1);
        syncByTime();
    }

    /** A leader whose log is longer than POINT sends SYNC, 4 T after the latest, where no PING is due. */
    private static void syncByTime() {
        OrderedWorks x = new OrderedWorks(0, 0);
        Air.whole(x, 0, 1, 0, 7);
        x.calm(12);
        Check.due("at 4 T a PING was due", Air.count(x, Air.SYNC), 0);
        Check.due("not yet", x.replica(1, 10), 0);
        Check.due("then SYNC", x.tick(1), 2);
        Check.due("SYNC", x.message(0, 1), Air.SYNC);
        Air.settle(x);
        Check.due("POINT", x.replica(2, 6), 1);
        for (int i = 0; i < 20; i++) {
            x.tick(1);
            Check.due("no more, as POINT has all", Air.count(x, Air.SYNC), 0);
            Air.settle(x);
        }
        OrderedWorks y = new OrderedWorks(0, 0);
        Air.whole(y, 0, 1, 0, 8);
        y.tick(1);
        y.sync(0);
        Air.clear(y);
        for (int time = 2; time <= 13; time++) {
            Check.due("not yet", Air.count(y, Air.SYNC), 0);
            y.tick(1);
            if (Air.count(y, Air.PING) > 0) {
                Air.settle(y);
            }
        }
        Check.due("4 T after sync()", Air.count(y, Air.SYNC), 2);
        Air.clear(y);
        for (int time = 14; time <= 25; time++) {
            Check.due("not yet", Air.count(y, Air.SYNC), 0);
            y.tick(1);
            if (Air.count(y, Air.PING) > 0) {
                Air.settle(y);
            }
        }
        Check.due("4 T after that", Air.count(y, Air.SYNC), 2);
    }

    private static void askingAgain() {
        OrderedWorks x = new OrderedWorks(0, 0);
        x.request(0, 0, 0, 0);
        x.request(1, 0, 0, 0);
        x.tick(2);
        x.deliver(4);
        Check.due("LOOKUP", Air.count(x, Air.LOOKUP), 1);
        x.deliver(3);
        Check.due("GAP COMMIT", Air.count(x, Air.GAP_COMMIT), 2);
        Air.clear(x);
        Check.due("PING alone", x.tick(1), 2);
        Air.settle(x);
        Check.due("T after it asked is not yet", x.tick(1), 0);
        x.tick(1);
        Check.due("GAP COMMIT again", Air.count(x, Air.GAP_COMMIT), 2);
        Check.due("LOOKUP again", Air.count(x, Air.LOOKUP), 1);
        Check.due("instead of a PING", Air.count(x, Air.PING), 0);
        x.tick(1);
        Check.due("PING is next", Air.count(x, Air.PING), 2);
        Air.clear(x);
        x.nudge(0);
        x.nudge(1);
        Air.clear(x);
        x.tick(2);
        Check.due("nudge() is asking", Air.count(x, Air.GAP_COMMIT) + Air.count(x, Air.LOOKUP), 0);
        x.tick(1);
        Check.due("and again", Air.count(x, Air.GAP_COMMIT), 2);
    }

    private static void changing() {
        OrderedWorks x = new OrderedWorks(0, 0);
        x.suspect(1);
        Air.clear(x);
        Check.due("not yet", x.tick(2), 0);
        Check.due("TURN again (and a PING by 0)", x.tick(1), 4);
        Check.due("TURN", Air.count(x, Air.TURN), 2);
        Check.due("the same view", x.replica(1, 2), 1);
        Air.clear(x);
        x.tick(5);
        Check.due("ASKED again at 2 T", Air.count(x, Air.TURN), 2);
        Air.clear(x);
        x.tick(3);
        Check.due("TURNED less than 4 T ago", x.replica(1, 2), 1);
        Air.clear(x);
        x.tick(1);
        Check.due("4 T: the next lead", x.replica(1, 2), 2);
        Check.due("TURNED to the next leader", Air.place(x, Air.TURNED, 1, 2) >= 0 ? 1 : 0, 1);
        x.down(1);
        x.tick(40);
        Check.due("nothing of one that is down", x.replica(1, 2), 2);
    }

    private static void stampingAgain() {
        OrderedWorks x = new OrderedWorks(0, 0);
        x.tick(1);
        x.request(2, 0, 0, 0);
        x.tick(5);
        Check.due("not yet", x.about(5), 1);
        x.tick(1);
        Check.due("2 T ticks ago", x.about(5), 2);
        x.tick(3);
        x.again(2);
        Check.due("again", x.about(5), 3);
        x.tick(5);
        Check.due("again() counts, too", x.about(5), 3);
        x.tick(1);
        Check.due("2 T after it", x.about(5), 4);
        OrderedWorks y = new OrderedWorks(0, 5);
        y.fail();
        y.tick(7);
        y.request(0, 0, 0, 0);
        Check.due("nothing is up", y.about(5), 0);
        y.tick(1);
        Check.due("it is installed", y.about(3), 1);
        y.tick(14);
        Check.due("stamped in vain 15 ticks ago", y.about(5), 0);
        y.tick(1);
        Check.due("16 ticks ago", y.about(5), 1);
    }

    private static void promise13() {
        OrderedWorks x = new OrderedWorks(0, 0);
        Check.thrown("-1", IllegalArgumentException.class, () -> x.calm(-1));
        Check.thrown("21", IllegalArgumentException.class, () -> x.calm(21));
        x.request(0, 1, 1, 1);
        x.request(1, 1, 1, 1);
        Check.due("0", x.calm(0), 0);
        Check.due("TIME", x.about(7), 0);
        Check.due("what is sent meanwhile waits", x.calm(1), 0);
        Check.due("six replies", x.about(0), 6);
        Check.due("all of them", Air.count(x, Air.REPLY), 6);
        Check.due("accepted", x.calm(1), 2);
        Check.due("TIME", x.about(7), 2);
        Check.due("nothing lies there", x.about(0), 0);
        x.calm(1);
        Check.due("a tick comes first, and its PINGs are delivered", x.about(0), 0);
        Check.due("PINGs", x.about(1), 14);
        OrderedWorks y = new OrderedWorks(2, 3);
        y.fail();
        for (int c = 0; c < 4; c++) {
            y.request(c, 2, 0, 1);
        }
        y.down(0);
        Check.due("a leader and a sequencer are replaced", y.calm(20) + y.calm(20) + y.calm(20), 4);
        y.up(0);
        y.calm(20);
        y.calm(20);
        for (int r = 0; r < 7; r++) {
            Check.due("all alike", y.word(r, 0), 4);
            Check.due("NORMAL", y.replica(r, 1), 0);
        }
        Check.due("held to", y.broken(), 0);
    }

    private static void promise14() {
        OrderedWorks x = new OrderedWorks(0, 0);
        Check.yes("it was up", x.fail());
        Check.due("not up", x.about(3), 0);
        Check.yes("it was not", !x.fail());
        x.tick(2);
        Check.yes("nor now", !x.fail());
        Check.due("not yet", x.about(3), 0);
        x.tick(1);
        Check.due("failed T ticks ago: that was the first time", x.about(3), 1);
        Check.due("session", x.about(4), 2);
        Check.yes("it is up", x.fail());
        x.tick(2);
        Check.due("not yet", x.about(3), 0);
        x.tick(1);
        Check.due("again", x.about(4), 3);
    }

    private static void promise15() {
        OrderedWorks x = new OrderedWorks(0, 0);
        x.request(0, 0, 0, 0);
        Check.due("in the place of one", x.install(), 2);
        Check.due("COUNT", x.about(5), 0);
        Check.due("SESSION", x.about(4), 2);
        x.fail();
        Check.due("while there is none", x.install(), 3);
        Check.due("up", x.about(3), 1);
        x.again(0);
        Check.yes("it stamps anew", Air.tells(x, 3).equals("3 1 0 1 0 0 0"));
        Air.settle(x);
        for (int r = 0; r < 3; r++) {
            Check.due("all are in the session", x.replica(r, 3), 3);
            Check.due("NORMAL", x.replica(r, 1), 0);
        }
    }
}
