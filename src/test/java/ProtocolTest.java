/** What the terms of the document say of replicas and clients, case by case. */
public final class ProtocolTest {
    public static void main(String[] args) {
        stampedOutOfOrder();
        leadersGap();
        heldMost();
        foundBeyondEight();
        gapCommits();
        gapReplies();
        lookups();
        syncs();
        syncReplies();
        points();
        joining();
        sessions();
        mergedLogs();
        mergedBase();
        lateTurned();
        starts();
        otherViews();
        duplicates();
        acceptance();
        places();
        fullLog();
        fullLogMerged();
        heldInAnyOrder();
        startWhileNormal();
        inChangeOfTheSameView();
        oldPoint();
        heardByView();
        heardFromTheLeaderAlone();
        Check.end();
    }

    private static OrderedWorks three() {
        return new OrderedWorks(0, 0);
    }

    private static void is(String what, String got, String want) {
        if (!got.equals(want)) {
            System.out.println(what + ": " + got + ", due is " + want);
        }
        Check.yes(what, got.equals(want));
    }

    /** One letter a slot: the client's number, or a dash for a NOTHING. */
    private static String log(OrderedWorks x, int r) {
        StringBuilder text = new StringBuilder();
        for (int slot = 1; slot <= x.replica(r, 5); slot++) {
            text.append(x.entry(r, slot, 0) == 0 ? "-" : Integer.toString(x.entry(r, slot, 1)));
        }
        return text.toString();
    }

    private static void stampedOutOfOrder() {
        OrderedWorks x = three();
        for (int c = 0; c < 4; c++) {
            x.request(c, 0, 0, 0);
        }
        x.deliver(10);
        is("nothing taken", log(x, 1), "");
        Check.due("held", x.replica(1, 7), 1);
        is("LOOKUP of what is missing", Air.tells(x, Air.LOOKUP, 1, 0), "0 1 1");
        x.deliver(1);
        is("one taken", log(x, 1), "0");
        is("LOOKUP of the next", Air.tells(x, x.about(0) - 1), "0 1 2");
        x.deliver(7);
        Check.due("two held", x.replica(1, 7), 2);
        x.deliver(4);
        is("all taken in order", log(x, 1), "0123");
        Check.due("none held", x.replica(1, 7), 0);
        Check.due("four replies", Air.count(x, Air.REPLY), 4);
        Check.due("three LOOKUPs", Air.count(x, Air.LOOKUP), 3);
        is("the last REPLY's slot", Air.tells(x, Air.REPLY, 1, 3), "0 1 4 1 0");
    }

    private static void leadersGap() {
        OrderedWorks x = three();
        for (int c = 0; c < 4; c++) {
            x.request(c, 1, 0, c + 1);
        }
        x.deliver(3);
        is("a NOTHING", log(x, 0), "-");
        Check.due("GAP", x.replica(0, 1), 1);
        x.deliver(0);
        is("what comes late does not count", log(x, 0), "-");
        x.deliver(9);
        Check.due("held in GAP", x.replica(0, 7), 2);
        is("but not taken", log(x, 0), "-");
        Air.deliver(x, Air.GAP_COMMIT, 0, 2);
        is("the other one has it", log(x, 2), "-");
        Air.deliver(x, Air.GAP_REPLY, 2, 0);
        is("taken, and the next one is missing", log(x, 0), "-1-");
        Check.due("GAP again", x.replica(0, 1), 1);
        Air.lose(x, Air.GAP_COMMIT, 0, 1);
        is("GAP COMMIT of it", Air.tells(x, Air.GAP_COMMIT, 0, 1), "0 1 3");
        is("the answer by what is executed", Air.tells(x, Air.REPLY, 0, 1), "0 1 2 1 1 0");
    }

    private static void heldMost() {
        OrderedWorks x = new OrderedWorks(0, 5);
        x.request(0, 0, 0, 0);
        for (int i = 0; i < 12; i++) {
            x.again(0);
        }
        for (int k = 2; k <= 10; k++) {
            x.deliver(3 * (k - 1) + 1);
        }
        Check.due("8 at most", x.replica(1, 7), 8);
        x.again(0);
        x.deliver(1);
        Check.due("not even the next one", x.replica(1, 5), 0);
    }

    private static void foundBeyondEight() {
        OrderedWorks x = new OrderedWorks(0, 5);
        x.request(0, 0, 0, 0);
        for (int i = 0; i < 8; i++) {
            x.again(0);
        }
        for (int k = 1; k <= 9; k++) {
            x.deliver(3 * (k - 1));
        }
        Check.due("the leader has 9", x.replica(0, 5), 9);
        for (int k = 2; k <= 9; k++) {
            x.deliver(3 * (k - 1) + 1);
        }
        Check.due("8 held", x.replica(1, 7), 8);
        Air.deliver(x, Air.LOOKUP, 1, 0);
        is("FOUND", Air.tells(x, Air.FOUND, 0, 1), "0 1 1 0 1 0 0 0");
        Air.deliver(x, Air.FOUND, 0, 1);
        Check.due("all taken", x.replica(1, 5), 9);
        Check.due("none held", x.replica(1, 7), 0);
        Air.deliver(x, Air.LOOKUP, 1, 0);
        Air.deliver(x, Air.FOUND, 0, 1);
        Check.due("FOUND of another slot than the next", x.replica(1, 5), 9);
        Check.due("is not held", x.replica(1, 7), 0);
    }

    private static void gapCommits() {
        OrderedWorks x = three();
        Air.whole(x, 0, 1, 0, 5);
        x.request(1, 1, 0, 6);
        x.request(2, 1, 0, 7);
        x.deliver(x.message(1, 0));
        Air.deliver(x, Air.STAMPED, -1, 1);
        is("it has both", log(x, 1), "012");
        Air.lose(x, Air.STAMPED, -1, 0);
        Air.deliver(x, Air.STAMPED, -1, 0);
        is("the leader has a NOTHING", log(x, 0), "0-");
        int sent = x.about(1);
        Air.deliver(x, Air.GAP_COMMIT, 0, 1);
        is("the slot becomes a NOTHING", log(x, 1), "0-2");
        Check.due("GAP REPLY alone", x.about(1), sent + 1);
        is("GAP REPLY", Air.tells(x, Air.GAP_REPLY, 1, 0), "0 1 2");
        Air.lose(x, Air.STAMPED, -1, 2);
        Air.deliver(x, Air.STAMPED, -1, 2);
        Check.due("held", x.replica(2, 7), 1);
        Air.deliver(x, Air.GAP_COMMIT, 0, 2);
        is("the next one, and what is held is taken", log(x, 2), "0-2");
        is("GAP REPLY first", Air.tells(x, x.about(0) - 2), "0 1 2");
        Check.due("then REPLY", x.message(x.about(0) - 1, 1), Air.REPLY);

        OrderedWorks y = three();
        y.request(0, 1, 0, 1);
        y.request(1, 1, 0, 2);
        y.deliver(3);
        y.deliver(2);
        y.suspect(1);
        Air.clear(y);
        y.nudge(0);
        Air.deliver(y, Air.GAP_COMMIT, 0, 1);
        Check.due("not in another view", y.replica(1, 5), 0);
        Air.deliver(y, Air.GAP_COMMIT, 0, 2);
        is("a request that was replied becomes a NOTHING", log(y, 2), "-");

        OrderedWorks z = three();
        z.request(0, 1, 0, 1);
        z.request(1, 1, 0, 2);
        z.request(2, 1, 0, 3);
        z.deliver(0);
        z.deliver(6);
        is("GAP at slot 2", log(z, 0), "0-");
        Air.deliver(z, Air.GAP_COMMIT, 0, 2);
        is("a slot behind the next one: nothing", log(z, 2), "");
        Check.due("no GAP REPLY", Air.count(z, Air.GAP_REPLY), 0);
    }

    private static void gapReplies() {
        OrderedWorks x = new OrderedWorks(1, 0);
        x.request(0, 1, 0, 1);
        x.request(1, 1, 0, 2);
        x.deliver(5);
        for (int r = 1; r < 5; r++) {
            Air.deliver(x, Air.GAP_COMMIT, 0, r);
        }
        x.nudge(0);
        Air.deliver(x, Air.GAP_COMMIT, 0, 1);
        Air.deliver(x, Air.GAP_REPLY, 1, 0);
        Check.due("one", x.replica(0, 1), 1);
        Air.deliver(x, Air.GAP_REPLY, 1, 0);
        Check.due("that of each replica counts once", x.replica(0, 1), 1);
        Air.deliver(x, Air.GAP_REPLY, 2, 0);
        Check.due("two", x.replica(0, 1), 0);
        is("it takes", log(x, 0), "-1");
        x.request(2, 1, 0, 3);
        x.request(3, 1, 0, 4);
        Air.lose(x, Air.STAMPED, -1, 0);
        Air.lose(x, Air.STAMPED, -1, 0);
        Air.deliver(x, Air.STAMPED, -1, 0);
        is("GAP again", log(x, 0), "-1-");
        Air.deliver(x, Air.GAP_REPLY, 3, 0);
        Air.deliver(x, Air.GAP_REPLY, 4, 0);
        Check.due("of another slot", x.replica(0, 1), 1);
        x.deliver(6);
        x.nudge(0);
        x.deliver(Air.last(x, Air.GAP_COMMIT, 0, 1));
        x.deliver(Air.last(x, Air.GAP_REPLY, 1, 0));
        Check.due("counted anew: one", x.replica(0, 1), 1);
        x.deliver(7);
        x.deliver(Air.last(x, Air.GAP_COMMIT, 0, 2));
        x.deliver(Air.last(x, Air.GAP_REPLY, 2, 0));
        Check.due("two", x.replica(0, 1), 0);
    }

    private static void lookups() {
        OrderedWorks x = three();
        x.request(0, 1, 3, 9);
        x.request(1, 1, 0, 2);
        x.deliver(4);
        Air.deliver(x, Air.LOOKUP, 1, 0);
        Check.due("not there", Air.count(x, Air.FOUND) + Air.count(x, Air.GAP_COMMIT), 0);
        x.deliver(0);
        x.nudge(1);
        Air.deliver(x, Air.LOOKUP, 1, 0);
        is("there", Air.tells(x, Air.FOUND, 0, 1), "0 1 1 0 1 1 3 9");
        Air.deliver(x, Air.FOUND, 0, 1);
        is("both taken", log(x, 1), "01");
        OrderedWorks y = three();
        y.request(0, 1, 3, 9);
        y.request(1, 1, 0, 2);
        y.deliver(3);
        y.deliver(4);
        Air.lose(y, Air.GAP_COMMIT, 0, 1);
        Air.lose(y, Air.GAP_COMMIT, 0, 2);
        Air.deliver(y, Air.LOOKUP, 1, 0);
        Check.due("GAP COMMIT to that one alone", Air.count(y, Air.GAP_COMMIT), 1);
        is("of that slot", Air.tells(y, Air.GAP_COMMIT, 0, 1), "0 1 1");
        Air.deliver(y, Air.GAP_COMMIT, 0, 1);
        is("taken", log(y, 1), "-1");
    }

    private static void syncs() {
        OrderedWorks x = three();
        x.request(0, 1, 0, 1);
        x.request(1, 1, 0, 2);
        x.deliver(0);
        x.deliver(3);
        x.deliver(1);
        x.sync(0);
        int sent = x.about(1);
        Air.deliver(x, Air.SYNC, 0, 1);
        Check.due("it has not m", x.replica(1, 10), 0);
        Check.due("no SYNC REPLY", x.about(1), sent);
        x.sync(0);
        x.deliver(4);
        Air.deliver(x, Air.SYNC, 0, 1);
        Check.due("it has", x.replica(1, 10), 2);
        is("SYNC REPLY", Air.tells(x, Air.SYNC_REPLY, 1, 0), "0 1 2");

        OrderedWorks y = three();
        y.request(0, 1, 0, 1);
        y.request(1, 1, 0, 2);
        y.request(2, 1, 0, 3);
        y.deliver(0);
        y.sync(0);
        y.deliver(6);
        for (int number : new int[] {1, 4, 7, 2}) {
            y.deliver(number);
        }
        Air.deliver(y, Air.GAP_COMMIT, 0, 2);
        Air.deliver(y, Air.GAP_REPLY, 2, 0);
        is("the leader's", log(y, 0), "0-2");
        is("another one's", log(y, 1), "012");
        y.sync(0);
        y.deliver(Air.number(y, Air.SYNC, 0, 1));
        Check.due("m of the first SYNC", y.replica(1, 10), 1);
        is("only the first m", log(y, 1), "012");
        Air.deliver(y, Air.SYNC, 0, 1);
        is("these are its first", log(y, 1), "0-2");
        Check.due("SYNCED", y.replica(1, 10), 3);

        OrderedWorks z = three();
        z.sync(0);
        Air.stampedToAll(z, 0);
        z.sync(0);
        int newer = Air.last(z, Air.SYNC, 0, 1);
        z.deliver(newer);
        Check.due("SYNCED", z.replica(1, 10), 1);
        Air.deliver(z, Air.SYNC, 0, 1);
        Check.due("SYNCED more before", z.replica(1, 10), 1);
        is("SYNC REPLY of 0 all the same", Air.tells(z, z.about(0) - 1), "0 1 0");
    }

    private static void syncReplies() {
        OrderedWorks x = new OrderedWorks(1, 0);
        Air.whole(x, 0, 1, 0, 1);
        x.sync(0);
        for (int r = 1; r < 5; r++) {
            Air.deliver(x, Air.SYNC, 0, r);
        }
        Air.stampedToAll(x, 1);
        x.sync(0);
        for (int r = 1; r < 5; r++) {
            Air.deliver(x, Air.SYNC, 0, r);
        }
        Air.deliver(x, Air.SYNC_REPLY, 1, 0);
        Check.due("one of 1", x.replica(0, 6), 0);
        x.deliver(Air.last(x, Air.SYNC_REPLY, 2, 0));
        Check.due("one of 2: anew", x.replica(0, 6), 0);
        Air.deliver(x, Air.SYNC_REPLY, 3, 0);
        Check.due("one of 1: anew", x.replica(0, 6), 0);
        Air.deliver(x, Air.SYNC_REPLY, 4, 0);
        Check.due("two of 1", x.replica(0, 6), 1);
        Check.due("POINT to all others", Air.count(x, Air.POINT), 4);
        is("POINT", Air.tells(x, Air.POINT, 0, 4), "0 1 1");
        Air.deliver(x, Air.SYNC_REPLY, 2, 0);
        Check.due("m is not above POINT", Air.count(x, Air.POINT), 4);
        Air.deliver(x, Air.SYNC_REPLY, 3, 0);
        Check.due("one of 2", x.replica(0, 6), 1);
        Air.deliver(x, Air.SYNC_REPLY, 4, 0);
        Check.due("two of 2", x.replica(0, 6), 2);

        OrderedWorks y = new OrderedWorks(1, 0);
        Air.whole(y, 0, 1, 0, 1);
        y.sync(0);
        Air.deliver(y, Air.SYNC, 0, 1);
        Air.deliver(y, Air.SYNC, 0, 2);
        Air.deliver(y, Air.SYNC_REPLY, 1, 0);
        y.request(1, 0, 0, 0);
        Air.lose(y, Air.STAMPED, -1, 0);
        y.again(1);
        Air.deliver(y, Air.STAMPED, -1, 0);
        Check.due("GAP", y.replica(0, 1), 1);
        Air.deliver(y, Air.SYNC_REPLY, 2, 0);
        Check.due("in GAP too, and a GAP counts no SYNC REPLYs anew", y.replica(0, 6), 1);
    }

    private static void points() {
        OrderedWorks x = three();
        Air.whole(x, 0, 1, 0, 1);
        x.sync(0);
        Air.deliver(x, Air.SYNC, 0, 1);
        Air.deliver(x, Air.SYNC_REPLY, 1, 0);
        Air.deliver(x, Air.POINT, 0, 2);
        Check.due("not SYNCED", x.replica(2, 6), 0);
        Air.deliver(x, Air.POINT, 0, 1);
        Check.due("SYNCED", x.replica(1, 6), 1);
        x.suspect(1);
        Check.due("POINT stays", x.replica(1, 6), 1);
        Check.due("SYNCED 0", x.replica(1, 10), 0);
        Air.settle(x);
        Check.due("POINT stays", x.replica(1, 6), 1);
        Check.due("it leads", x.replica(1, 1), 0);
        Check.due("another one's", x.replica(2, 6), 0);
    }

    private static void joining() {
        OrderedWorks x = new OrderedWorks(1, 0);
        x.install();
        x.request(0, 0, 0, 0);
        x.deliver(1);
        Check.due("(0, 2)", x.replica(1, 3), 2);
        x.suspect(2);
        Check.due("(1, 1)", x.replica(2, 2), 1);
        Air.deliver(x, Air.TURN, 2, 1);
        Check.due("joined L", x.replica(1, 2), 1);
        Check.due("joined S", x.replica(1, 3), 2);
        Air.deliver(x, Air.TURN, 1, 2);
        Check.due("joined, too, by the older TURN", x.replica(2, 3), 2);
        Check.due("joined, too", x.replica(2, 2), 1);
        int sent = x.about(1);
        Air.deliver(x, Air.TURNED, 2, 1);
        Check.due("TURNED of a view behind", x.about(1), sent);
        Air.deliver(x, Air.TURN, 2, 3);
        Check.due("from NORMAL", x.replica(3, 1), 2);
        Check.due("(1, 1)", x.replica(3, 3), 1);
        OrderedWorks y = three();
        y.suspect(2);
        Air.deliver(y, Air.TURNED, 2, 1);
        Check.due("TURNED makes it turn, count and merge", y.replica(1, 1), 0);
        OrderedWorks first = three();
        first.suspect(0);
        Air.deliver(first, Air.TURNED, 0, 1);
        Check.due("that of replica 0, too", first.replica(1, 1), 0);
        Check.due("in that view", y.replica(1, 2), 1);
        Check.due("TURN was sent first", y.message(2, 1), Air.TURN);
        Check.due("then START", y.message(4, 1), Air.START);
        OrderedWorks z = three();
        z.suspect(0);
        z.suspect(0);
        z.suspect(0);
        Check.due("(3, 1) is led by 0", z.about(1), 3 + 3 + 2);
        z.deliver(6);
        Check.due("TURN", z.replica(1, 2), 3);
        z.deliver(0);
        Check.due("TURN of a view behind", z.replica(1, 2), 3);
        OrderedWorks p = new OrderedWorks(0, 0);
        p.suspect(1);
        p.suspect(2);
        Air.deliver(p, Air.TURNED, 2, 1);
        Air.clear(p);
        p.tick(3);
        Air.deliver(p, Air.PING, 1, 0);
        Check.due("PING makes it turn", p.replica(0, 1), 2);
        Check.due("to that view", p.replica(0, 2), 1);
        Air.deliver(p, Air.PING, 0, 2);
        Check.due("not one of a view behind", p.replica(2, 2), 1);
    }

    private static void sessions() {
        OrderedWorks x = three();
        Air.whole(x, 0, 1, 0, 5);
        x.request(1, 1, 0, 6);
        Air.lose(x, Air.STAMPED, -1, 1);
        Air.lose(x, Air.STAMPED, -1, 2);
        x.install();
        x.again(1);
        Air.deliver(x, Air.STAMPED, -1, 2);
        Check.due("S above its own: it turns", x.replica(2, 1), 2);
        Check.due("the same L", x.replica(2, 2), 0);
        Check.due("the request is not held", x.replica(2, 7), 0);
        Air.deliver(x, Air.STAMPED, -1, 0);
        Check.due("the leader takes the old one still", x.replica(0, 5), 2);
        Air.settle(x);
        for (int r = 0; r < 3; r++) {
            Check.due("BASE is the merged log's length", x.replica(r, 4), 2);
            is("merged, the stamped one is gone", log(x, r), "01");
        }
        Check.due("still open: no REPLY of a merged log", x.client(1, 1), 1);
        x.again(1);
        Air.settle(x);
        is("in CHANGE it was not held, so number 1 is missing", log(x, 0), "01-1");
        Check.due("accepted in slot 4", x.client(1, 2), 4);
        Check.due("S", x.client(1, 4), 2);
        Check.due("executed where it stands first", x.answer(1), 5);
        OrderedWorks y = three();
        y.install();
        y.request(0, 1, 0, 5);
        y.install();
        y.again(0);
        y.deliver(4);
        y.deliver(1);
        Check.due("S below its own: nothing", y.replica(1, 3), 3);
        Check.due("nothing held", y.replica(1, 7), 0);
    }

    private static void mergedLogs() {
        OrderedWorks x = new OrderedWorks(1, 0);
        for (int c = 0; c < 4; c++) {
            x.request(c, 1, c, c + 1);
        }
        for (int r = 0; r < 4; r++) {
            x.deliver(r);
        }
        x.deliver(5 + 1);
        x.deliver(10 + 0);
        is("the leader has a GAP", log(x, 0), "0-");
        x.deliver(10 + 1);
        Air.deliver(x, Air.GAP_COMMIT, 0, 2);
        x.deliver(10 + 2);
        is("1", log(x, 1), "012");
        is("2", log(x, 2), "0-2");
        is("3", log(x, 3), "0");
        x.suspect(1);
        x.suspect(2);
        x.suspect(3);
        Air.clear(x);
        x.nudge(2);
        x.nudge(3);
        Air.deliver(x, Air.TURNED, 2, 1);
        Check.due("one is not F", x.replica(1, 1), 2);
        Air.deliver(x, Air.TURNED, 3, 1);
        is("a NOTHING where one has it, else a request", log(x, 1), "0-2");
        Check.due("BASE", x.replica(1, 4), 0);
        Check.due("START to all others", Air.count(x, Air.START), 4);
        Check.due("no REPLY", Air.count(x, Air.REPLY), 0);
        Check.due("NORMAL last", x.replica(1, 8), 1);

        OrderedWorks y = new OrderedWorks(1, 0);
        y.request(0, 1, 0, 1);
        y.deliver(2);
        y.suspect(2);
        y.suspect(3);
        Air.deliver(y, Air.TURNED, 3, 1);
        Air.deliver(y, Air.TURNED, 2, 1);
        is("as long as the longest", log(y, 1), "0");
        Air.deliver(y, Air.START, 1, 4);
        Air.clear(y);
        y.suspect(4);
        y.suspect(4);
        y.suspect(4);
        y.suspect(0);
        y.suspect(0);
        y.suspect(0);
        y.suspect(0);
        Check.due("0 leads nothing", y.replica(0, 2), 4);
        Air.clear(y);
        y.nudge(0);
        y.suspect(3);
        y.suspect(3);
        y.suspect(3);
        Check.due("3 is in (4, 1)", y.replica(3, 2), 4);
        y.nudge(3);
        Air.deliver(y, Air.TURNED, 0, 4);
        Air.deliver(y, Air.TURNED, 3, 4);
        is("only the greatest view of the last NORMAL: its own", log(y, 4), "0");
    }

    private static void mergedBase() {
        OrderedWorks x = three();
        Air.whole(x, 0, 1, 0, 1);
        Air.whole(x, 1, 1, 0, 1);
        x.install();
        x.request(2, 1, 0, 3);
        Air.settle(x);
        x.again(2);
        Air.settle(x);
        is("two, then a missing one", log(x, 0), "01-2");
        Check.due("BASE", x.replica(0, 4), 2);
        x.suspect(0);
        Air.settle(x);
        Check.due("another lead", x.replica(0, 2), 1);
        Check.due("the same session: BASE stays", x.replica(1, 4), 2);
        Air.whole(x, 0, 0, 0, 0);
        is("so the numbers go on", log(x, 1), "01-20");
        OrderedWorks y = three();
        Air.whole(y, 0, 1, 0, 1);
        y.install();
        y.request(1, 1, 0, 2);
        y.deliver(Air.number(y, Air.STAMPED, -1, 2));
        Air.deliver(y, Air.STAMPED, -1, 0);
        Air.deliver(y, Air.TURNED, 2, 0);
        Air.deliver(y, Air.START, 0, 2);
        Air.clear(y);
        y.again(1);
        Air.deliver(y, Air.STAMPED, -1, 2);
        Air.deliver(y, Air.LOOKUP, 2, 0);
        Air.clear(y);
        y.suspect(2);
        Air.deliver(y, Air.TURN, 2, 1);
        Check.due("1 was NORMAL last in session 1", y.replica(1, 9), 1);
        Air.deliver(y, Air.TURNED, 2, 1);
        Check.due("BASE of the one that is looked at", y.replica(1, 4), 1);
        Check.due("S", y.replica(1, 3), 2);
    }

    private static void lateTurned() {
        OrderedWorks x = three();
        x.suspect(0);
        x.suspect(2);
        Air.deliver(x, Air.TURNED, 2, 1);
        Check.due("merged", x.replica(1, 1), 0);
        Air.lose(x, Air.START, 1, 0);
        Check.due("one START is left", Air.count(x, Air.START), 1);
        Air.deliver(x, Air.TURNED, 0, 1);
        Check.due("START to that one", Air.count(x, Air.START), 2);
        Air.deliver(x, Air.START, 1, 0);
        Check.due("NORMAL", x.replica(0, 1), 0);
        Check.due("in that view", x.replica(0, 8), 1);
    }

    private static void starts() {
        OrderedWorks x = three();
        x.request(0, 1, 0, 1);
        x.deliver(0);
        x.deliver(1);
        x.suspect(1);
        x.suspect(2);
        Air.deliver(x, Air.TURNED, 2, 1);
        is("merged", log(x, 1), "0");
        Air.deliver(x, Air.START, 1, 0);
        Check.due("its view was behind: NORMAL, not CHANGE", x.replica(0, 1), 0);
        Check.due("its view", x.replica(0, 2), 1);
        Air.deliver(x, Air.START, 1, 2);
        is("the log comes with it", log(x, 2), "0");
        Check.due("no REPLY is sent", Air.count(x, Air.REPLY), 2);
        x.request(1, 1, 0, 1);
        x.nudge(2);
        Air.settle(x);
        is("it goes on", log(x, 2), "01");
        OrderedWorks y = three();
        y.suspect(1);
        y.suspect(2);
        Air.deliver(y, Air.TURNED, 2, 1);
        y.nudge(2);
        Air.deliver(y, Air.TURNED, 2, 1);
        Check.due("two STARTs to 2", Air.count(y, Air.START), 3);
        Air.deliver(y, Air.START, 1, 2);
        y.request(0, 1, 0, 1);
        Air.deliver(y, Air.STAMPED, -1, 2);
        Air.deliver(y, Air.START, 1, 2);
        is("START of its view while NORMAL: nothing", log(y, 2), "0");
        y.suspect(0);
        y.suspect(0);
        Air.deliver(y, Air.START, 1, 0);
        Check.due("START of a view that is behind: nothing", y.replica(0, 2), 2);
    }

    /** Where a view is told that is not its own nothing comes of it. */
    private static void otherViews() {
        OrderedWorks x = three();
        Air.whole(x, 0, 1, 0, 1);
        x.sync(0);
        x.suspect(1);
        int sent = x.about(1);
        Air.deliver(x, Air.SYNC, 0, 1);
        Check.due("SYNC", x.about(1), sent);
        Air.deliver(x, Air.SYNC, 0, 2);
        x.suspect(0);
        Air.deliver(x, Air.SYNC_REPLY, 2, 0);
        Check.due("SYNC REPLY", x.replica(0, 6), 0);
        OrderedWorks y = three();
        y.request(0, 1, 0, 1);
        y.request(1, 1, 0, 1);
        y.deliver(0);
        y.deliver(4);
        y.suspect(0);
        sent = y.about(1);
        Air.deliver(y, Air.LOOKUP, 1, 0);
        Check.due("LOOKUP", y.about(1), sent);
        OrderedWorks z = three();
        z.suspect(1);
        z.request(0, 1, 0, 1);
        Air.deliver(z, Air.STAMPED, -1, 1);
        Check.due("STAMPED in CHANGE", z.replica(1, 7), 0);
    }

    private static void duplicates() {
        OrderedWorks x = three();
        x.request(0, 2, 0, 5);
        x.again(0);
        x.deliver(0);
        x.deliver(3);
        is("two entries", log(x, 0), "00");
        is("the answer it had", Air.tells(x, x.about(0) - 1), "0 1 2 1 1 0");
        Check.due("executed once", x.word(0, 0), 5);
        x.deliver(1);
        Air.deliver(x, Air.REPLY, 0, 0);
        Air.deliver(x, Air.REPLY, 1, 0);
        Check.due("accepted", x.client(0, 1), 2);
        Check.due("in slot 1", x.client(0, 2), 1);
        OrderedWorks y = three();
        y.request(0, 2, 0, 5);
        y.again(0);
        y.again(0);
        for (int r = 0; r < 3; r++) {
            y.deliver(r);
        }
        Air.deliver(y, Air.REPLY, 0, 0);
        Air.deliver(y, Air.REPLY, 1, 0);
        y.request(0, 2, 0, 6);
        y.deliver(3);
        y.deliver(6);
        Air.deliver(y, Air.STAMPED, -1, 0);
        is("four entries", log(y, 0), "0000");
        Check.due("both executed", y.word(0, 0), 11);
        Air.settle(y);
        Check.due("the second's answer", y.answer(0), 5);
    }

    private static void acceptance() {
        OrderedWorks x = new OrderedWorks(1, 0);
        x.request(0, 1, 0, 1);
        for (int r = 0; r < 5; r++) {
            x.deliver(r);
        }
        for (int r = 1; r < 5; r++) {
            Air.deliver(x, Air.REPLY, r, 0);
        }
        Check.due("four, but not the leader", x.client(0, 1), 1);
        Air.deliver(x, Air.REPLY, 0, 0);
        Check.due("the leader among them", x.client(0, 1), 2);
        OrderedWorks y = new OrderedWorks(1, 0);
        y.request(0, 1, 0, 1);
        y.again(0);
        for (int number : new int[] {0, 5, 1, 6, 2, 7}) {
            y.deliver(number);
        }
        Air.lose(y, Air.REPLY, 0, 0);
        Air.deliver(y, Air.REPLY, 0, 0);
        Air.deliver(y, Air.REPLY, 1, 0);
        Air.deliver(y, Air.REPLY, 2, 0);
        Check.due("of one slot each", y.client(0, 1), 1);
        Air.deliver(y, Air.REPLY, 1, 0);
        Check.due("two of slot 2", y.client(0, 1), 1);
        Air.deliver(y, Air.REPLY, 2, 0);
        Check.due("three of slot 2", y.client(0, 1), 2);
        Check.due("its slot", y.client(0, 2), 2);
        OrderedWorks z = three();
        z.request(0, 1, 0, 1);
        z.again(0);
        z.deliver(0);
        z.deliver(1);
        z.deliver(4);
        Air.deliver(z, Air.REPLY, 0, 0);
        Air.deliver(z, Air.REPLY, 1, 0);
        z.request(0, 1, 0, 2);
        Air.deliver(z, Air.REPLY, 1, 0);
        Check.due("a REPLY of an older number", z.client(0, 1), 1);
        Check.due("accepted in all", z.about(6), 1);
    }

    /** 64 places of an open request are counted: with one more the first is forgotten. */
    private static void places() {
        for (int more = 0; more < 2; more++) {
            OrderedWorks x = three();
            x.request(0, 2, 0, 1);
            x.deliver(0);
            int leaders = Air.number(x, Air.REPLY, 0, 0);
            x.deliver(1);
            int second = Air.number(x, Air.REPLY, 1, 0);
            x.deliver(leaders);
            for (int i = 0; i < 63 + more; i++) {
                x.again(0);
                x.deliver(Air.last(x, Air.STAMPED, -1, 1));
                x.deliver(Air.last(x, Air.REPLY, 1, 0));
                x.lose(Air.last(x, Air.STAMPED, -1, 0));
                x.lose(Air.last(x, Air.STAMPED, -1, 2));
            }
            Check.due("open", x.client(0, 1), 1);
            x.deliver(second);
            Check.due("64 places are kept, 65 are not", x.client(0, 1), more == 0 ? 2 : 1);
            if (more == 1) {
                x.deliver(2);
                Air.deliver(x, Air.REPLY, 2, 0);
                Check.due("it counts from nothing: the leader's is forgotten", x.client(0, 1), 1);
            }
        }
    }

    private static void fullLog() {
        OrderedWorks x = three();
        x.request(0, 2, 0, 1);
        for (int i = 1; i < 110; i++) {
            x.lose(Air.number(x, Air.STAMPED, -1, 2));
            Air.deliver(x, Air.STAMPED, -1, 0);
            Air.deliver(x, Air.STAMPED, -1, 1);
            while (Air.count(x, Air.REPLY) > 0) {
                x.lose(x.message(0, 0));
            }
            x.again(0);
        }
        Check.due("100 entries", x.replica(0, 5), 100);
        Check.due("100 entries", x.replica(1, 5), 100);
        Check.due("held beyond", x.replica(0, 7), 8);
        Check.due("held beyond", x.replica(1, 7), 8);
        Check.due("NORMAL", x.replica(0, 1), 0);
        Air.clear(x);
        Check.due("the leader asks nothing", x.nudge(0), 0);
        Check.due("another one does", x.nudge(1), 1);
        is("LOOKUP of 101", Air.tells(x, Air.LOOKUP, 1, 0), "0 1 101");
        Air.deliver(x, Air.LOOKUP, 1, 0);
        Check.due("nothing comes of it", x.about(0), 0);
        Check.due("an image of it", x.image(1), 2560);
        Check.due("the last entry", x.output(512 * 4 + 16 * 24), 1);
        Check.due("nothing behind it", x.output(512 * 4 + 16 * 25), 0);
        x.sync(0);
        Check.due("SYNC of 100", x.wire(0), 3 + 2 + 1 + 100 * 10 - 100 + 4);
        Air.settle(x);
        Check.due("POINT", x.replica(1, 6), 100);
        x.suspect(1);
        Air.settle(x);
        Check.due("all have 100 by START", x.replica(2, 5), 100);
        Check.due("held no more", x.replica(1, 7), 0);
    }

    /** The new leader has little itself, and all of 100 entries from another one. */
    private static void fullLogMerged() {
        OrderedWorks x = three();
        x.request(0, 2, 0, 1);
        for (int i = 0; i < 100; i++) {
            Air.deliver(x, Air.STAMPED, -1, 2);
            Air.clear(x);
            x.again(0);
        }
        Air.clear(x);
        x.suspect(2);
        Air.deliver(x, Air.TURNED, 2, 1);
        Check.due("100 entries", x.replica(1, 5), 100);
        for (int slot = 1; slot <= 100; slot++) {
            Check.due("a request in slot " + slot, x.entry(1, slot, 0), 1);
        }
        Air.deliver(x, Air.START, 1, 0);
        Check.due("by START", x.entry(0, 100, 0), 1);
    }

    private static void heldInAnyOrder() {
        int[][] orders = {{2, 3, 4, 1}, {4, 3, 2, 1}, {3, 2, 4, 1}, {2, 4, 3, 1}, {4, 2, 3, 1}, {3, 4, 2, 1}};
        for (int[] order : orders) {
            OrderedWorks x = three();
            for (int c = 0; c < 4; c++) {
                x.request(c, 1, c, c);
            }
            for (int k : order) {
                x.deliver(3 * (k - 1) + 2);
            }
            is("in order", log(x, 2), "0123");
        }
    }

    /** START of a view ahead, to one that is NORMAL, SYNCED and holds something. */
    private static void startWhileNormal() {
        OrderedWorks x = three();
        Air.whole(x, 0, 1, 0, 1);
        x.sync(0);
        Air.deliver(x, Air.SYNC, 0, 2);
        x.request(1, 1, 0, 2);
        Air.lose(x, Air.STAMPED, -1, 2);
        x.again(1);
        Air.deliver(x, Air.STAMPED, -1, 2);
        Check.due("held", x.replica(2, 7), 1);
        Check.due("SYNCED", x.replica(2, 10), 1);
        Air.clear(x);
        x.suspect(1);
        x.suspect(0);
        Air.deliver(x, Air.TURNED, 0, 1);
        x.tick(7);
        Air.deliver(x, Air.START, 1, 2);
        Check.due("held no more", x.replica(2, 7), 0);
        Check.due("SYNCED 0", x.replica(2, 10), 0);
        Check.due("NORMAL", x.replica(2, 1), 0);
        x.tick(8);
        Check.due("it heard its leader by START", x.replica(2, 1), 0);
        x.tick(1);
        Check.due("3 T ago", x.replica(2, 1), 2);
    }

    /** A leader that is NORMAL already, and one that has not got its START. */
    private static void inChangeOfTheSameView() {
        OrderedWorks x = three();
        x.suspect(0);
        x.suspect(2);
        Air.deliver(x, Air.TURNED, 2, 1);
        Air.clear(x);
        x.sync(1);
        Air.deliver(x, Air.SYNC, 1, 0);
        Check.due("SYNC", Air.count(x, Air.SYNC_REPLY), 0);
        x.request(0, 1, 0, 1);
        Air.lose(x, Air.STAMPED, -1, 1);
        x.again(0);
        Air.deliver(x, Air.STAMPED, -1, 1);
        Air.deliver(x, Air.GAP_COMMIT, 1, 0);
        Check.due("GAP COMMIT", Air.count(x, Air.GAP_REPLY), 0);
        Check.due("no entry", x.replica(0, 5), 0);
        Check.due("CHANGE", x.replica(0, 1), 2);
        x.suspect(2);
        x.deliver(Air.last(x, Air.TURN, 2, 1));
        Air.deliver(x, Air.TURNED, 1, 2);
        Check.due("2 leads (2, 1)", x.replica(2, 1), 0);
    }

    /** POINT of the view before, though as much is SYNCED in the new one. */
    private static void oldPoint() {
        OrderedWorks x = three();
        Air.whole(x, 0, 1, 0, 1);
        x.sync(0);
        Air.deliver(x, Air.SYNC, 0, 1);
        Air.deliver(x, Air.SYNC_REPLY, 1, 0);
        int old = Air.number(x, Air.POINT, 0, 2);
        x.suspect(1);
        x.suspect(2);
        Air.deliver(x, Air.TURNED, 2, 1);
        Air.deliver(x, Air.START, 1, 2);
        x.sync(1);
        Air.deliver(x, Air.SYNC, 1, 2);
        Check.due("SYNCED", x.replica(2, 10), 1);
        x.deliver(old);
        Check.due("of another view", x.replica(2, 6), 0);
    }

    private static void heardFromTheLeaderAlone() {
        OrderedWorks x = new OrderedWorks(1, 0);
        x.suspect(1);
        x.suspect(2);
        x.suspect(3);
        x.suspect(4);
        Air.deliver(x, Air.TURNED, 2, 1);
        Air.deliver(x, Air.TURNED, 3, 1);
        Air.deliver(x, Air.START, 1, 3);
        Air.deliver(x, Air.START, 1, 2);
        x.tick(8);
        Air.deliver(x, Air.TURN, 4, 3);
        Air.deliver(x, Air.TURN, 1, 2);
        x.tick(1);
        Check.due("TURN of its view by another one", x.replica(3, 2), 2);
        Check.due("by its leader", x.replica(2, 2), 1);
    }

    /** A message of the leader that tells the view is heard, though nothing else comes of it. */
    private static void heardByView() {
        OrderedWorks x = three();
        Air.whole(x, 0, 1, 0, 1);
        x.sync(0);
        x.tick(8);
        Air.deliver(x, Air.SYNC, 0, 1);
        x.tick(1);
        Check.due("SYNC is heard", x.replica(1, 1), 0);
        Check.due("the other one heard nothing", x.replica(2, 1), 2);
        OrderedWorks y = three();
        y.request(0, 1, 0, 1);
        y.tick(8);
        Air.deliver(y, Air.STAMPED, -1, 1);
        y.tick(1);
        Check.due("STAMPED is not the leader's", y.replica(1, 1), 2);
        OrderedWorks z = three();
        z.tick(7);
        z.suspect(1);
        z.suspect(2);
        Air.deliver(z, Air.TURNED, 2, 1);
        Air.deliver(z, Air.START, 1, 2);
        z.tick(8);
        Check.due("START is heard", z.replica(2, 1), 0);
        z.tick(1);
        Check.due("3 T later it turns", z.replica(2, 1), 2);
    }
}
