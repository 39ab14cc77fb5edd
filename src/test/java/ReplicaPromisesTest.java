/** Promises 7 to 11 and 16 to 18: what is done to replicas, and what is seen of them. */
public final class ReplicaPromisesTest {
    public static void main(String[] args) {
        promise7();
        promise8();
        promise9();
        promise10();
        promise11();
        promise16();
        promise17();
        promise18();
        Check.end();
    }

    private static void promise7() {
        OrderedWorks x = new OrderedWorks(1, 0);
        Check.thrown("-1", IndexOutOfBoundsException.class, () -> x.down(-1));
        Check.thrown("N", IndexOutOfBoundsException.class, () -> x.down(5));
        x.down(4);
        Check.due("down", x.replica(4, 0), 1);
        Check.thrown("down already", IllegalStateException.class, () -> x.down(4));
        x.down(0);
        Check.thrown("F are", IllegalStateException.class, () -> x.down(1));
        Check.due("it is not", x.replica(1, 0), 0);
        Check.thrown("no such one, ahead of F", IndexOutOfBoundsException.class, () -> x.down(5));
        OrderedWorks y = new OrderedWorks(0, 0);
        Air.whole(y, 0, 1, 0, 5);
        y.sync(0);
        Air.settle(y);
        y.request(0, 1, 0, 6);
        Air.lose(y, Air.STAMPED, -1, 1);
        y.again(0);
        Air.deliver(y, Air.STAMPED, -1, 1);
        Check.due("held", y.replica(1, 7), 1);
        y.down(1);
        Check.due("it holds nothing any more", y.replica(1, 7), 0);
        Check.due("its log stays", y.replica(1, 5), 1);
        Check.due("its POINT stays", y.replica(1, 6), 1);
        Check.due("what is synced stays", y.replica(1, 10), 1);
    }

    /** Down and up again: GAP REPLYs, SYNC REPLYs and TURNEDs count from nothing. */
    private static void promise8() {
        OrderedWorks x = new OrderedWorks(0, 0);
        Check.thrown("-1", IndexOutOfBoundsException.class, () -> x.up(-1));
        Check.thrown("N", IndexOutOfBoundsException.class, () -> x.up(3));
        Check.thrown("it is not down", IllegalStateException.class, () -> x.up(0));
        x.down(2);
        x.up(2);
        Check.due("there again", x.replica(2, 0), 0);
        Check.thrown("once", IllegalStateException.class, () -> x.up(2));
        x.request(0, 0, 0, 0);
        x.deliver(2);
        Check.due("it hears again", x.replica(2, 5), 1);

        OrderedWorks y = new OrderedWorks(1, 0);
        Air.whole(y, 0, 1, 0, 1);
        y.sync(0);
        for (int i = 1; i < 5; i++) {
            Air.deliver(y, Air.SYNC, 0, i);
        }
        Air.deliver(y, Air.SYNC_REPLY, 1, 0);
        y.down(0);
        y.up(0);
        Air.deliver(y, Air.SYNC_REPLY, 2, 0);
        Check.due("counted anew", y.replica(0, 6), 0);
        Air.deliver(y, Air.SYNC_REPLY, 3, 0);
        Check.due("two of them", y.replica(0, 6), 1);

        OrderedWorks z = new OrderedWorks(1, 0);
        z.suspect(2);
        z.suspect(3);
        Air.deliver(z, Air.TURNED, 2, 1);
        z.down(1);
        z.up(1);
        Air.deliver(z, Air.TURNED, 3, 1);
        Check.due("counted anew", z.replica(1, 1), 2);
        z.nudge(2);
        Air.deliver(z, Air.TURNED, 2, 1);
        Check.due("two of them", z.replica(1, 1), 0);

        OrderedWorks w = new OrderedWorks(1, 0);
        w.request(0, 0, 0, 0);
        w.request(1, 0, 0, 0);
        w.deliver(5);
        Check.due("GAP", w.replica(0, 1), 1);
        w.deliver(1);
        w.deliver(2);
        Air.deliver(w, Air.GAP_COMMIT, 0, 1);
        Air.deliver(w, Air.GAP_COMMIT, 0, 2);
        Air.deliver(w, Air.GAP_REPLY, 1, 0);
        w.down(0);
        w.up(0);
        Check.due("GAP stays", w.replica(0, 1), 1);
        Air.deliver(w, Air.GAP_REPLY, 2, 0);
        Check.due("counted anew", w.replica(0, 1), 1);
    }

    private static void promise9() {
        OrderedWorks x = new OrderedWorks(0, 0);
        Check.thrown("-1", IndexOutOfBoundsException.class, () -> x.suspect(-1));
        Check.thrown("N", IndexOutOfBoundsException.class, () -> x.suspect(3));
        x.suspect(2);
        Check.due("CHANGE", x.replica(2, 1), 2);
        Check.due("L", x.replica(2, 2), 1);
        Check.due("S", x.replica(2, 3), 1);
        Check.due("NORMAL last in L", x.replica(2, 8), 0);
        int[][] due = {{8, 2, 0}, {8, 2, 1}, {9, 2, 1}};
        for (int k = 0; k < due.length; k++) {
            for (int what = 0; what < 3; what++) {
                Check.due("message " + k + " " + what, x.message(k, what + 1), due[k][what]);
            }
        }
        Check.yes("TURN tells the view", Air.tells(x, 0).equals("1 1"));
        Check.yes("TURNED tells more", Air.tells(x, 2).equals("1 1 0 1 0 0"));
        x.suspect(2);
        Check.due("in CHANGE too", x.replica(2, 2), 2);
        Check.due("no TURNED to itself", x.about(1), 5);
        x.suspect(0);
        Check.due("a leader, too", x.replica(0, 2), 1);
        x.down(0);
        Check.thrown("down", IllegalStateException.class, () -> x.suspect(0));
    }

    private static void promise10() {
        OrderedWorks x = new OrderedWorks(1, 0);
        Check.thrown("-1", IndexOutOfBoundsException.class, () -> x.nudge(-1));
        Check.thrown("N", IndexOutOfBoundsException.class, () -> x.nudge(5));
        Check.due("NORMAL, leading", x.nudge(0), 0);
        Check.due("NORMAL, nothing held", x.nudge(1), 0);
        x.request(0, 0, 0, 0);
        x.request(1, 0, 0, 0);
        x.deliver(5);
        x.deliver(6);
        Air.lose(x, Air.LOOKUP, 1, 0);
        Check.due("some held", x.nudge(1), 1);
        Check.yes("LOOKUP of the next slot", Air.tells(x, Air.LOOKUP, 1, 0).equals("0 1 1"));
        Air.deliver(x, Air.GAP_COMMIT, 0, 1);
        Air.deliver(x, Air.GAP_REPLY, 1, 0);
        Air.clear(x);
        Check.due("in GAP", x.nudge(0), 4);
        for (int k = 0; k < 4; k++) {
            Check.due("GAP COMMIT", x.message(k, 1), Air.GAP_COMMIT);
            Check.due("to all others", x.message(k, 3), k + 1);
            Check.yes("of the last slot", Air.tells(x, k).equals("0 1 1"));
        }
        Air.deliver(x, Air.GAP_COMMIT, 0, 2);
        Air.deliver(x, Air.GAP_REPLY, 2, 0);
        Check.due("nothing was counted anew", x.replica(0, 1), 0);
        x.suspect(3);
        Air.clear(x);
        Check.due("in CHANGE", x.nudge(3), 5);
        Check.due("TURN", x.message(0, 1), Air.TURN);
        Check.due("TURNED", x.message(4, 1), Air.TURNED);
        Check.due("to the leader", x.message(4, 3), 1);
        x.suspect(1);
        Check.due("its own leader", x.nudge(1), 4);
        x.down(4);
        Check.thrown("down", IllegalStateException.class, () -> x.nudge(4));
    }

    private static void promise11() {
        OrderedWorks x = new OrderedWorks(0, 0);
        Check.thrown("-1", IndexOutOfBoundsException.class, () -> x.sync(-1));
        Check.thrown("N", IndexOutOfBoundsException.class, () -> x.sync(3));
        Check.thrown("it does not lead", IllegalStateException.class, () -> x.sync(1));
        x.sync(0);
        Check.due("an empty log, too", x.about(0), 2);
        Check.yes("m is 0", Air.tells(x, 1).equals("0 1 0"));
        Air.deliver(x, Air.SYNC, 0, 2);
        Check.due("SYNC REPLY of 0", x.message(1, 1), Air.SYNC_REPLY);
        Air.settle(x);
        Check.due("POINT", x.replica(0, 6), 0);
        Air.whole(x, 0, 1, 4, 44);
        Air.whole(x, 1, 2, 4, 1);
        x.sync(0);
        Check.due("to all others", x.message(0, 3), 1);
        Check.due("to all others", x.message(1, 3), 2);
        Check.due("no more", x.about(0), 2);
        Check.yes("the whole log", Air.tells(x, 0).equals("0 1 2 1 0 1 1 4 44 1 1 1 2 4 1"));
        Air.settle(x);
        for (int r = 0; r < 3; r++) {
            Check.due("POINT", x.replica(r, 6), 2);
            Check.due("word", x.word(r, 4), 45);
        }
        Check.due("SYNCED", x.replica(1, 10), 2);
        Check.due("the leader is not", x.replica(0, 10), 0);
        x.request(0, 0, 0, 0);
        x.request(1, 0, 0, 0);
        Air.lose(x, Air.STAMPED, -1, 0);
        Air.deliver(x, Air.STAMPED, -1, 0);
        Check.thrown("in GAP", IllegalStateException.class, () -> x.sync(0));
        x.suspect(1);
        Check.thrown("in CHANGE", IllegalStateException.class, () -> x.sync(1));
        x.down(0);
        Check.thrown("down", IllegalStateException.class, () -> x.sync(0));
        OrderedWorks y = new OrderedWorks(0, 0);
        y.down(0);
        Check.thrown("down, though it leads and is NORMAL", IllegalStateException.class, () -> y.sync(0));
    }

    private static void promise16() {
        OrderedWorks x = new OrderedWorks(0, 0);
        Air.whole(x, 0, 1, 0, 1);
        x.sync(0);
        Air.settle(x);
        x.install();
        x.request(1, 1, 0, 1);
        x.request(2, 1, 0, 1);
        Air.settle(x);
        Check.due("a new session is seen by its requests", x.replica(1, 3), 2);
        x.request(3, 1, 0, 1);
        Air.lose(x, Air.STAMPED, -1, 2);
        x.again(3);
        Air.lose(x, Air.STAMPED, -1, 2);
        x.again(3);
        Air.deliver(x, Air.STAMPED, -1, 2);
        int length = x.replica(2, 5);
        int base = x.replica(2, 4);
        int[] due = {0, 0, 0, 2, base, length, 1, 1, 0, 2, 0};
        for (int what = 0; what < due.length; what++) {
            Check.due("replica " + what, x.replica(2, what), due[what]);
        }
        Check.due("BASE is the log's length when the session began", base, 1);
        x.suspect(2);
        x.down(2);
        int[] then = {1, 2, 1, 2, base, length, 1, 0, 0, 2, 0};
        for (int what = 0; what < then.length; what++) {
            Check.due("replica " + what, x.replica(2, what), then[what]);
        }
        Check.due("another what", x.replica(0, 11), -1);
        Check.due("another what", x.replica(0, -1), -1);
        Check.due("no such replica", x.replica(3, 0), -1);
        Check.due("no such replica", x.replica(-1, 0), -1);
    }

    private static void promise17() {
        OrderedWorks x = new OrderedWorks(0, 0);
        Air.whole(x, 3, 2, 7, -9);
        x.request(0, 0, 0, 0);
        Air.clear(x);
        x.again(0);
        Air.settle(x);
        Air.whole(x, 0, 1, 6, 5);
        int[] request = {1, 3, 1, 2, 7, -9};
        int[] nothing = {0, -1, -1, -1, -1, 0};
        int[] second = {1, 0, 2, 1, 6, 5};
        for (int r = 0; r < 3; r++) {
            for (int what = 0; what < 6; what++) {
                Check.due("request " + what, x.entry(r, 1, what), request[what]);
                Check.due("NOTHING " + what, x.entry(r, 2, what), nothing[what]);
                Check.due("fourth " + what, x.entry(r, 4, what), second[what]);
            }
        }
        int[] none = {-1, -1, -1, -1, -1, 0};
        int[][] absent = {{0, 0}, {0, 5}, {0, -1}, {0, 101}, {-1, 1}, {3, 1}};
        for (int[] at : absent) {
            for (int what = 0; what < 6; what++) {
                Check.due("none " + what, x.entry(at[0], at[1], what), none[what]);
            }
            Check.due("another what", x.entry(at[0], at[1], 6), -1);
        }
        Check.due("another what", x.entry(0, 1, 6), -1);
        Check.due("another what", x.entry(0, 1, -1), -1);
        Check.due("another what", x.entry(0, 2, 6), -1);
    }

    private static void promise18() {
        OrderedWorks x = new OrderedWorks(0, 0);
        Air.whole(x, 0, 1, 3, 10);
        Check.due("the leader executes all", x.word(0, 3), 10);
        Check.due("another one up to POINT", x.word(1, 3), 0);
        x.sync(0);
        Air.settle(x);
        Check.due("which is there now", x.word(1, 3), 10);
        Air.whole(x, 0, 2, 3, 5);
        Check.due("all", x.word(0, 3), 15);
        Check.due("up to POINT", x.word(1, 3), 10);
        x.down(0);
        Check.due("down or not", x.word(0, 3), 15);
        x.up(0);
        x.suspect(0);
        Check.due("in CHANGE up to POINT", x.word(0, 3), 10);
        Check.due("no such replica", x.word(3, 3), 0);
        Check.due("no such replica", x.word(-1, 3), 0);
        Check.due("no such key", x.word(0, 8), 0);
        Check.due("no such key", x.word(0, -1), 0);
        OrderedWorks y = new OrderedWorks(0, 0);
        y.request(0, 2, 1, 6);
        y.again(0);
        Air.settle(y);
        Check.due("two entries", y.replica(0, 5), 2);
        Check.due("executed once", y.word(0, 1), 6);
    }
}
