/** The boundary cases of views: who leads, which is behind, how they are joined, changed, merged and started. */
public final class EdgesViewsTest {
    public static void main(String[] args) {
        leaders();
        behind();
        turns();
        enoughTurned();
        greatestNormal();
        earlierTurned();
        mergedEntries();
        mergedBase();
        merged();
        otherViews();
        turned();
        turnedLate();
        starts();
        started();
        pings();
        Sentence.end();
    }

    private static OrderedWorks three() {
        return new OrderedWorks(0, 0);
    }

    private static OrderedWorks five() {
        return new OrderedWorks(1, 0);
    }

    private static void suspect(OrderedWorks x, int replica, int times) {
        for (int i = 0; i < times; i++) {
            x.suspect(replica);
        }
    }

    /** A replica turns to (L, S) by a STAMPED of a new session and by suspecting; all else is lost. */
    private static void turnTo(OrderedWorks x, int replica, int lead, int session) {
        while (x.about(4) < session) {
            x.install();
        }
        if (x.replica(replica, 3) < session) {
            Air.stampTo(x, 3, replica);
        }
        suspect(x, replica, lead - x.replica(replica, 2));
        Air.clear(x);
        Check.text("as the test wants it", Air.view(x, replica), "(" + lead + ", " + session + ") CHANGE");
    }

    private static void leaders() {
        Sentence.holds("Terms", "A VIEW is a lead L and a session S, at first 0 and 1; its LEADER is replica L modulo N.", () -> {
            for (int n = 0; n < 3; n++) {
                int size = 3 + 2 * n;
                OrderedWorks x = new OrderedWorks(n, 0);
                Check.text("at first", Air.view(x, size - 1), "(0, 1) NORMAL");
                x.sync(0);
                Air.clear(x);
                for (int lead = 1; lead <= 2 * size + 1; lead++) {
                    x.suspect(1);
                    int leader = lead % size;
                    int last = x.message(x.about(0) - 1, 1);
                    if (leader == 1) {
                        Check.due("it leads: no TURNED", last, Air.TURN);
                    } else {
                        Check.due("TURNED", last, Air.TURNED);
                        Check.due("to L modulo N", x.message(x.about(0) - 1, 3), leader);
                    }
                    Air.clear(x);
                }
            }
        });
        Sentence.holds("Terms", "its LEADER is replica L modulo N", () -> {
            OrderedWorks x = three();
            suspect(x, 0, 3);
            suspect(x, 1, 3);
            x.deliver(Air.last(x, Air.TURNED, 1, 0));
            Check.text("N is led by 0", Air.view(x, 0), "(3, 1) NORMAL");
            Air.deliver(x, Air.START, 0, 1);
            Air.deliver(x, Air.START, 0, 2);
            Air.clear(x);
            Air.whole(x, 0, 0, 0, 0);
            Check.due("a request is accepted in it", x.client(0, 3), 3);
            x.sync(0);
            Check.thrown("1 does not lead it", IllegalStateException.class, () -> x.sync(1));
        });
    }

    /** Replica 0 is in the one view; TURN of the other one comes to it, and it is then in the due one. */
    private static void turnComes(String what, int[] own, int[] told, int[] due) {
        OrderedWorks x = five();
        if (own[1] <= told[1]) {
            turnTo(x, 0, own[0], own[1]);
        }
        turnTo(x, 2, told[0], told[1]);
        if (own[1] > told[1]) {
            turnTo(x, 0, own[0], own[1]);
        }
        int sent = x.about(1);
        x.nudge(2);
        Air.deliver(x, Air.TURN, 2, 0);
        Check.text(what, Air.view(x, 0), "(" + due[0] + ", " + due[1] + ") CHANGE");
        boolean same = own[0] == due[0] && own[1] == due[1];
        Check.due(what + ", and it tells that it turned", x.about(1) - sent - 5 > 0 ? 1 : 0, same ? 0 : 1);
    }

    private static void behind() {
        Sentence.holds("Terms", "It is BEHIND another one if L or S is less and neither is more.", () -> {
            turnComes("L is less", new int[] {3, 2}, new int[] {2, 2}, new int[] {3, 2});
            turnComes("S is less", new int[] {3, 3}, new int[] {3, 2}, new int[] {3, 3});
            turnComes("both are less", new int[] {3, 3}, new int[] {2, 2}, new int[] {3, 3});
            turnComes("the same", new int[] {3, 2}, new int[] {3, 2}, new int[] {3, 2});
        });
        Sentence.holds("TURN", "TURN (w), if w is not its view and not behind it: it TURNS to both JOINED.", () -> {
            turnComes("L is more", new int[] {2, 2}, new int[] {3, 2}, new int[] {3, 2});
            turnComes("S is more", new int[] {2, 2}, new int[] {2, 3}, new int[] {2, 3});
            turnComes("both are more", new int[] {2, 2}, new int[] {4, 3}, new int[] {4, 3});
        });
        Sentence.holds("Terms", "Two views JOINED: the greater L, the greater S.", () -> {
            turnComes("L is less, S is more", new int[] {4, 2}, new int[] {2, 3}, new int[] {4, 3});
            turnComes("L is more, S is less", new int[] {2, 3}, new int[] {4, 2}, new int[] {4, 3});
        });
    }

    private static void turns() {
        Sentence.holds("TURNS", "that is its view, it is in CHANGE, holds and counts nothing, is SYNCED 0", () -> {
            OrderedWorks x = three();
            Air.fill(x, 0, 1);
            x.sync(0);
            Air.settle(x);
            x.request(1, 0, 0, 0);
            Air.stampTo(x, 1, 1);
            Check.due("HELD", x.replica(1, 7), 1);
            Check.due("SYNCED", x.replica(1, 10), 1);
            x.suspect(1);
            Check.due("none HELD", x.replica(1, 7), 0);
            Check.due("SYNCED 0", x.replica(1, 10), 0);
            Check.due("POINT stays", x.replica(1, 6), 1);
            Check.due("NORMAL last", x.replica(1, 8), 0);
            OrderedWorks y = five();
            y.suspect(2);
            y.suspect(3);
            y.suspect(1);
            Air.deliver(y, Air.TURNED, 2, 1);
            suspect(y, 1, 5);
            suspect(y, 3, 5);
            y.deliver(Air.last(y, Air.TURNED, 3, 1));
            Check.text("TURNEDs of the view before do not count", Air.view(y, 1), "(6, 1) CHANGE");
            suspect(y, 2, 5);
            y.deliver(Air.last(y, Air.TURNED, 2, 1));
            Check.text("two of this one do", Air.view(y, 1), "(6, 1) NORMAL");
        });
        Sentence.holds("TURNS", "TURN (view) is sent to all others; then TURNED (view, the view in which it was NORMAL last,"
            + " BASE, its log) to the leader of the view; if that is it itself, none is sent", () -> {
                OrderedWorks x = three();
                Air.fill(x, 0, 1);
                x.suspect(2);
                Check.text("it does not lead", Air.behind(x, 0), "8:2>0 8:2>1 9:2>1");
                Check.text("TURN", Air.tells(x, 1), "1 1");
                Check.text("TURNED", Air.tells(x, 2), "1 1 0 1 0 1 1 0 1 2 0 1");
                Air.clear(x);
                x.suspect(1);
                Check.text("it leads", Air.behind(x, 0), "8:1>0 8:1>2");
            });
    }

    private static void enoughTurned() {
        Sentence.holds("MERGES", "TURNED of that view has come from F others (what it has itself is one more, always)", () -> {
            for (int n = 0; n < 3; n++) {
                int half = n + 1;
                OrderedWorks x = new OrderedWorks(n, 0);
                for (int r = 2; r <= half + 1; r++) {
                    x.suspect(r);
                    x.nudge(r);
                }
                for (int r = 2; r <= half; r++) {
                    Air.deliver(x, Air.TURNED, r, 1);
                    Air.deliver(x, Air.TURNED, r, 1);
                    Check.text("F - 1, each of them twice", Air.view(x, 1), "(1, 1) CHANGE");
                }
                Air.deliver(x, Air.TURNED, half + 1, 1);
                Check.text("F", Air.view(x, 1), "(1, 1) NORMAL");
                Check.due("NORMAL last", x.replica(1, 8), 1);
            }
        });
        Sentence.holds("MERGES", "It MERGES, when it leads its view, is in CHANGE, and TURNED of that view has come", () -> {
            OrderedWorks x = five();
            x.suspect(2);
            suspect(x, 3, 2);
            x.suspect(1);
            Air.deliver(x, Air.TURNED, 2, 1);
            Check.text("one of this view", Air.view(x, 1), "(1, 1) CHANGE");
            Air.deliver(x, Air.TURNED, 3, 1);
            Check.text("two", Air.view(x, 1), "(1, 1) NORMAL");
            OrderedWorks y = five();
            y.suspect(1);
            turnTo(y, 2, 1, 2);
            turnTo(y, 3, 1, 2);
            y.nudge(2);
            Air.deliver(y, Air.TURNED, 2, 1);
            Check.text("it turned with the first", Air.view(y, 1), "(1, 2) CHANGE");
            y.nudge(3);
            Air.deliver(y, Air.TURNED, 3, 1);
            Check.text("which counts in the new view", Air.view(y, 1), "(1, 2) NORMAL");
        });
        Sentence.holds("TURNED", "in CHANGE that counts (the latest one of each replica), and it may MERGE", () -> {
            OrderedWorks x = five();
            x.suspect(2);
            x.nudge(2);
            x.suspect(3);
            Air.deliver(x, Air.TURNED, 2, 1);
            Air.deliver(x, Air.TURNED, 2, 1);
            Check.text("twice from one replica is one", Air.view(x, 1), "(1, 1) CHANGE");
            suspect(x, 2, 5);
            Check.text("(6, 1) is led by 1, too", Air.view(x, 2), "(6, 1) CHANGE");
            x.deliver(Air.last(x, Air.TURNED, 2, 1));
            Check.text("it turns with it, and the early one counts no more", Air.view(x, 1), "(6, 1) CHANGE");
            Air.deliver(x, Air.TURNED, 3, 1);
            Check.text("one of a view behind does not count", Air.view(x, 1), "(6, 1) CHANGE");
            suspect(x, 3, 5);
            x.deliver(Air.last(x, Air.TURNED, 3, 1));
            Check.text("two of that view", Air.view(x, 1), "(6, 1) NORMAL");
        });
    }

    private static void greatestNormal() {
        Sentence.holds("MERGES", "of these those with the greatest view of the last NORMAL (by S, then L) are looked at", () -> {
            OrderedWorks x = five();
            Air.stampTo(x, 0, 3);
            Air.stampTo(x, 1, 3);
            Check.text("3 has two entries of (0, 1)", Air.log(x, 3), "01");
            Air.clear(x);
            for (int r : new int[] {0, 2, 4}) {
                x.suspect(r);
            }
            Air.deliver(x, Air.TURNED, 0, 1);
            Air.deliver(x, Air.TURNED, 2, 1);
            Check.text("1 leads without them", Air.view(x, 1) + Air.log(x, 1), "(1, 1) NORMAL");
            Air.deliver(x, Air.START, 1, 2);
            Air.clear(x);
            turnTo(x, 3, 4, 1);
            turnTo(x, 2, 4, 1);
            turnTo(x, 4, 4, 1);
            x.nudge(3);
            x.nudge(2);
            Air.deliver(x, Air.TURNED, 3, 4);
            Air.deliver(x, Air.TURNED, 2, 4);
            Check.text("4 leads", Air.view(x, 4), "(4, 1) NORMAL");
            Check.text("2 was NORMAL in (1, 1): the longer logs of (0, 1) are not looked at", Air.log(x, 4), "");
        });
        Sentence.holds("MERGES", "the greatest view of the last NORMAL (by S, then L)", () -> {
            OrderedWorks x = three();
            Air.stampTo(x, 0, 1);
            Air.stampTo(x, 1, 1);
            Air.clear(x);
            turnTo(x, 0, 0, 2);
            turnTo(x, 2, 0, 2);
            x.nudge(2);
            Air.deliver(x, Air.TURNED, 2, 0);
            Air.deliver(x, Air.START, 0, 2);
            Air.clear(x);
            Check.text("2 was NORMAL in session 2", Air.view(x, 2) + Air.log(x, 2), "(0, 2) NORMAL");
            x.suspect(2);
            Air.deliver(x, Air.TURNED, 2, 1);
            Check.text("1, with two entries of session 1, merges", Air.view(x, 1), "(1, 2) NORMAL");
            Check.text("and its own are not looked at", Air.log(x, 1), "");
            OrderedWorks y = three();
            Air.stampTo(y, 0, 1);
            Air.stampTo(y, 1, 1);
            Air.clear(y);
            turnTo(y, 0, 0, 2);
            y.install();
            Air.stampTo(y, 2, 0, 2);
            y.nudge(2);
            y.deliver(Air.last(y, Air.TURNED, 2, 0));
            Air.deliver(y, Air.START, 0, 2);
            Air.clear(y);
            Air.stampTo(y, 2);
            Air.stampTo(y, 2, 2);
            Air.deliver(y, Air.LOOKUP, 2, 0);
            Air.stampTo(y, 2, 0);
            Air.deliver(y, Air.GAP_COMMIT, 0, 2);
            Check.text("2 has a NOTHING there, where 1 has requests", Air.log(y, 2), "-");
            y.suspect(2);
            Air.deliver(y, Air.TURNED, 2, 1);
            Check.text("1 merges", Air.view(y, 1), "(1, 3) NORMAL");
            Check.text("and has what 2 has", Air.log(y, 1), "-");
        });
    }

    /** What was counted in a view before is looked at no more, though it was NORMAL in a greater one. */
    private static void earlierTurned() {
        Sentence.holds("MERGES", "TURNED of that view has come from F others (what it has itself is one more, always): of these",
            () -> {
                OrderedWorks x = five();
                turnTo(x, 3, 2, 1);
                turnTo(x, 4, 2, 1);
                x.nudge(3);
                x.nudge(4);
                Air.deliver(x, Air.TURNED, 3, 2);
                Air.deliver(x, Air.TURNED, 4, 2);
                Check.text("2 is NORMAL in (2, 1)", Air.view(x, 2), "(2, 1) NORMAL");
                Air.clear(x);
                Air.stampTo(x, 0, 1);
                suspect(x, 2, 4);
                x.deliver(Air.last(x, Air.TURNED, 2, 1));
                Check.text("1 counts one of two", Air.view(x, 1), "(6, 1) CHANGE");
                turnTo(x, 1, 11, 1);
                turnTo(x, 3, 11, 1);
                turnTo(x, 4, 11, 1);
                x.nudge(3);
                x.nudge(4);
                Air.deliver(x, Air.TURNED, 3, 1);
                Air.deliver(x, Air.TURNED, 4, 1);
                Check.text("three that were NORMAL in (0, 1)", Air.view(x, 1), "(11, 1) NORMAL");
                Check.text("the log of these", Air.log(x, 1), "0");
                Check.due("BASE of these", x.replica(1, 4), 0);
            });
    }

    private static void mergedEntries() {
        Sentence.holds("MERGES", "the log is as long as the longest of theirs, with a NOTHING where one of them has that, else"
            + " the request that one of them has (its own first, then by their numbers)", () -> {
                OrderedWorks x = five();
                Air.stampTo(x, 0, 1, 2, 3);
                Air.stampTo(x, 1, 1, 2);
                Air.stampTo(x, 2, 2, 0);
                Check.text("the leader has a NOTHING in slot 1", Air.log(x, 0), "-");
                Air.deliver(x, Air.GAP_COMMIT, 0, 3);
                Air.clear(x);
                Check.text("1", Air.log(x, 1), "01");
                Check.text("2", Air.log(x, 2), "012");
                Check.text("3", Air.log(x, 3), "-");
                x.suspect(2);
                x.suspect(3);
                Air.deliver(x, Air.TURNED, 2, 1);
                Air.deliver(x, Air.TURNED, 3, 1);
                Check.text("a NOTHING, its own, the longest's", Air.log(x, 1), "-12");
                OrderedWorks empty = three();
                empty.suspect(2);
                Air.deliver(empty, Air.TURNED, 2, 1);
                Check.due("all are empty", empty.replica(1, 5), 0);
                Check.text("merged", Air.view(empty, 1), "(1, 1) NORMAL");
            });
        Sentence.holds("MERGES", "the log is as long as the longest of theirs", () -> {
            for (int from : new int[] {0, 2}) {
                OrderedWorks x = three();
                for (int i = 0; i < 100; i++) {
                    Air.stampTo(x, 0, from);
                    Air.clear(x);
                }
                x.suspect(from);
                Air.deliver(x, Air.TURNED, from, 1);
                Check.due("100 of another one, by START and TURNED", x.replica(1, 5), 100);
                Check.due("the last of them", x.entry(1, 100, 0), 1);
                OrderedWorks y = three();
                for (int i = 0; i < 100; i++) {
                    Air.stampTo(y, 0, 1);
                    Air.clear(y);
                }
                y.suspect(from);
                Air.deliver(y, Air.TURNED, from, 1);
                Check.due("100 of its own", y.replica(1, 5), 100);
                Air.deliver(y, Air.START, 1, from);
                Check.due("and by START", y.entry(from, 100, 0), 1);
            }
        });
    }

    private static void mergedBase() {
        Sentence.holds("MERGES", "if that view's S is that of its view, else it is the log's length", () -> {
            OrderedWorks x = three();
            Air.fill(x, 0, 2);
            turnTo(x, 1, 1, 2);
            turnTo(x, 2, 1, 2);
            x.nudge(2);
            Air.deliver(x, Air.TURNED, 2, 1);
            Check.due("session 2, from one of session 1: the length", x.replica(1, 4), 2);
            Check.text("START tells it", Air.tells(x, Air.START, 1, 0).substring(0, 7), "1 2 2 2");
            Air.deliver(x, Air.START, 1, 2);
            Air.clear(x);
            Air.stampTo(x, 3, 1, 2);
            x.suspect(2);
            suspect(x, 0, 1);
            Check.text("0 is in session 1", Air.view(x, 0), "(1, 1) CHANGE");
            Air.deliver(x, Air.TURN, 2, 1);
            x.nudge(1);
            Air.deliver(x, Air.TURNED, 1, 2);
            Check.text("2 merges in the same session", Air.view(x, 2), "(2, 2) NORMAL");
            Check.due("BASE stays", x.replica(2, 4), 2);
            Check.yes("though the log is longer", x.replica(2, 5) > 2);
        });
        Sentence.holds("MERGES", "BASE is that of these (its own if it is one of them, else that of the lowest number)", () -> {
            OrderedWorks x = three();
            Air.fill(x, 0, 3);
            turnTo(x, 0, 0, 2);
            turnTo(x, 2, 0, 2);
            x.nudge(2);
            Air.deliver(x, Air.TURNED, 2, 0);
            Air.deliver(x, Air.START, 0, 2);
            Air.clear(x);
            x.suspect(2);
            Air.deliver(x, Air.TURNED, 2, 1);
            Check.text("1 was NORMAL last in session 1", Air.view(x, 1), "(1, 2) NORMAL");
            Check.due("BASE of 2, as 1 itself is none of these", x.replica(1, 4), 3);
        });
    }

    private static void merged() {
        Sentence.holds("MERGES", "It is NORMAL in its view, holds and counts nothing, is SYNCED 0 (POINT stays; no REPLY is"
            + " sent), and START (view, BASE, its log) is sent to all others.", () -> {
                OrderedWorks x = five();
                Air.fill(x, 0, 2);
                x.sync(0);
                Air.settle(x);
                Air.stampTo(x, 0, 2);
                Air.clear(x);
                for (int r = 1; r < 4; r++) {
                    x.suspect(r);
                }
                Air.deliver(x, Air.TURNED, 2, 1);
                int sent = x.about(1);
                Air.deliver(x, Air.TURNED, 3, 1);
                Check.due("START alone is sent", x.about(1), sent + 4);
                Check.text("to all others", Air.behind(x, x.about(0) - 4), "10:1>0 10:1>2 10:1>3 10:1>4");
                Check.due("POINT stays", x.replica(1, 6), 2);
                Check.due("SYNCED 0", x.replica(1, 10), 0);
                Check.due("three entries", x.replica(1, 5), 3);
                Check.due("NORMAL last in L", x.replica(1, 8), 1);
                Check.due("NORMAL last in S", x.replica(1, 9), 1);
            });
    }

    private static void otherViews() {
        Sentence.holds("DELIVERED", "where a view is told that is not its view nothing comes of it, but for TURN, TURNED, START"
            + " and PING", () -> {
                OrderedWorks x = three();
                Air.stampTo(x, 0, 0);
                Air.stampTo(x, 0, 1);
                Air.clear(x);
                x.nudge(1);
                x.suspect(0);
                nothing(x, "LOOKUP", Air.LOOKUP, 1, 0);
                OrderedWorks found = three();
                Air.stampTo(found, 0, 0);
                Air.stampTo(found, 0, 1);
                Air.deliver(found, Air.LOOKUP, 1, 0);
                found.suspect(1);
                nothing(found, "FOUND", Air.FOUND, 0, 1);
                OrderedWorks gap = three();
                Air.stampTo(gap, 0);
                Air.stampTo(gap, 0, 0);
                Air.deliver(gap, Air.GAP_COMMIT, 0, 1);
                gap.suspect(2);
                nothing(gap, "GAP COMMIT", Air.GAP_COMMIT, 0, 2);
                gap.suspect(0);
                nothing(gap, "GAP REPLY", Air.GAP_REPLY, 1, 0);
                OrderedWorks sync = three();
                Air.fill(sync, 0, 1);
                sync.sync(0);
                Air.deliver(sync, Air.SYNC, 0, 1);
                sync.suspect(2);
                nothing(sync, "SYNC", Air.SYNC, 0, 2);
                sync.suspect(0);
                nothing(sync, "SYNC REPLY", Air.SYNC_REPLY, 1, 0);
            });
        Sentence.holds("DELIVERED", "where a view is told that is not its view nothing comes of it", () -> {
            OrderedWorks x = again(1);
            int old = Air.number(x, Air.SYNC, 0, 2);
            Check.text("2 is NORMAL again, in the next view", Air.view(x, 2), "(1, 1) NORMAL");
            int sent = x.about(1);
            x.deliver(old);
            Check.due("SYNC of the view before", x.replica(2, 10), 0);
            Check.due("no SYNC REPLY", x.about(1), sent);
            int point = Air.number(x, Air.POINT, 0, 2);
            x.sync(1);
            Air.deliver(x, Air.SYNC, 1, 2);
            Check.due("SYNCED in this view", x.replica(2, 10), 1);
            x.deliver(point);
            Check.due("POINT of the view before", x.replica(2, 6), 0);
            OrderedWorks y = again(3);
            Air.deliver(y, Air.LOOKUP, 2, 0);
            Check.due("LOOKUP of the view before, to one that leads again", Air.count(y, Air.FOUND), 0);
        });
    }

    /** All have one entry; 0 sent SYNC and POINT, and 2 a LOOKUP; then 1 or, with L = 3, 0 leads, and 2 is NORMAL in it. */
    private static OrderedWorks again(int lead) {
        OrderedWorks x = three();
        Air.fill(x, 0, 1);
        x.sync(0);
        Air.deliver(x, Air.SYNC, 0, 1);
        Air.deliver(x, Air.SYNC_REPLY, 1, 0);
        if (lead == 3) {
            Air.stampTo(x, 0, 0);
            Air.stampTo(x, 0, 2);
        }
        suspect(x, lead % 3, lead);
        suspect(x, 2, lead);
        x.deliver(Air.last(x, Air.TURNED, 2, lead % 3));
        Air.deliver(x, Air.START, lead % 3, 2);
        return x;
    }

    /** Nothing at all comes of a message: nothing is sent, and the replica stays as it was. */
    private static void nothing(OrderedWorks x, String what, int kind, int from, int to) {
        int sent = x.about(1);
        StringBuilder before = new StringBuilder(Air.log(x, to));
        StringBuilder after = new StringBuilder();
        for (int i = 0; i < 11; i++) {
            before.append(' ').append(x.replica(to, i));
        }
        Air.deliver(x, kind, from, to);
        after.append(Air.log(x, to));
        for (int i = 0; i < 11; i++) {
            after.append(' ').append(x.replica(to, i));
        }
        Check.text(what, after.toString(), before.toString());
        Check.due(what + ": nothing is sent", x.about(1), sent);
    }

    private static void turned() {
        Sentence.holds("TURNED", "if w is not its view and not behind it, it TURNS to both JOINED first", () -> {
            OrderedWorks x = three();
            x.suspect(2);
            Air.deliver(x, Air.TURNED, 2, 1);
            Check.text("from NORMAL it turns, counts and merges", Air.view(x, 1), "(1, 1) NORMAL");
            Check.text("TURN first, then START", Air.behind(x, 2), "8:1>0 8:1>2 10:1>0 10:1>2");
            OrderedWorks y = five();
            turnTo(y, 1, 0, 2);
            y.suspect(2);
            Air.deliver(y, Air.TURNED, 2, 1);
            Check.text("joined", Air.view(y, 1), "(1, 2) CHANGE");
            y.suspect(3);
            int sent = y.about(1);
            Air.deliver(y, Air.TURNED, 3, 1);
            Check.text("behind: nothing", Air.view(y, 1), "(1, 2) CHANGE");
            Check.due("nothing is sent", y.about(1), sent);
        });
        Sentence.holds("TURNED", "Then, if w is its view (as it is now), and it leads", () -> {
            OrderedWorks x = three();
            turnTo(x, 1, 0, 2);
            x.suspect(2);
            Air.deliver(x, Air.TURNED, 2, 1);
            Check.text("joined is not w: it does not count, though F is 1", Air.view(x, 1), "(1, 2) CHANGE");
        });
    }

    private static void turnedLate() {
        Sentence.holds("TURNED", "NORMAL or in GAP START is sent to that one", () -> {
            OrderedWorks x = five();
            for (int r = 0; r < 5; r++) {
                x.suspect(r);
            }
            Air.deliver(x, Air.TURNED, 2, 1);
            Air.deliver(x, Air.TURNED, 3, 1);
            Check.text("NORMAL", Air.view(x, 1), "(1, 1) NORMAL");
            int lie = x.about(0);
            Air.deliver(x, Air.TURNED, 4, 1);
            Check.text("START to 4", Air.behind(x, lie - 1), "10:1>4");
            Air.stampTo(x, 0);
            Air.stampTo(x, 0, 1);
            Check.text("GAP", Air.view(x, 1), "(1, 1) GAP");
            lie = x.about(0);
            Air.deliver(x, Air.TURNED, 0, 1);
            Check.text("START to 0", Air.behind(x, lie - 1), "10:1>0");
            Check.text("with its log as it is now", Air.tells(x, lie - 1), "1 1 0 1 0");
            Check.text("it stays in GAP", Air.view(x, 1), "(1, 1) GAP");
            Air.lose(x, Air.START, 1, 0);
            Air.deliver(x, Air.START, 1, 0);
            Check.text("0 goes on with it", Air.log(x, 0), "-");
        });
    }

    private static void starts() {
        Sentence.holds("START", "if its view is behind w, or is w and it is in CHANGE", () -> {
            OrderedWorks x = startSent();
            Air.deliver(x, Air.START, 1, 0);
            Check.text("NORMAL in (0, 1), which is behind", Air.view(x, 0), "(1, 1) NORMAL");
            Air.deliver(x, Air.START, 1, 2);
            Check.text("in CHANGE, of w", Air.view(x, 2), "(1, 1) NORMAL");
            OrderedWorks y = startSent();
            suspect(y, 4, 1);
            Air.deliver(y, Air.START, 1, 4);
            Check.text("in CHANGE of the same view by itself", Air.view(y, 4), "(1, 1) NORMAL");
        });
        Sentence.holds("START", "Else nothing comes of it.", () -> {
            OrderedWorks x = startSent();
            suspect(x, 0, 2);
            nothing(x, "w is behind its view", Air.START, 1, 0);
            turnTo2(x, 4);
            nothing(x, "neither is behind the other", Air.START, 1, 4);
            OrderedWorks y = startSent();
            y.nudge(2);
            Air.deliver(y, Air.TURNED, 2, 1);
            Air.deliver(y, Air.START, 1, 2);
            Air.stampTo(y, 0, 2);
            Check.text("it has an entry", Air.log(y, 2), "0");
            nothing(y, "w is its view, and it is NORMAL", Air.START, 1, 2);
            OrderedWorks z = startSent();
            z.suspect(3);
            z.suspect(3);
            Air.deliver(z, Air.START, 1, 2);
            nothing(z, "CHANGE of a view ahead", Air.START, 1, 3);
        });
    }

    /** Five replicas; 1 merged (1, 1), and its STARTs lie in the air. 2 and 3 are in CHANGE. */
    private static OrderedWorks startSent() {
        OrderedWorks x = five();
        x.suspect(2);
        x.suspect(3);
        Air.deliver(x, Air.TURNED, 2, 1);
        Air.deliver(x, Air.TURNED, 3, 1);
        return x;
    }

    /** A replica turns to (0, 2), and what lies in the air stays there. */
    private static void turnTo2(OrderedWorks x, int replica) {
        x.install();
        Air.stampTo(x, 3, replica);
        Check.text("(0, 2)", Air.view(x, replica), "(0, 2) CHANGE");
    }

    private static void started() {
        Sentence.holds("START", "with that BASE and log; it holds and counts nothing, is SYNCED 0 (POINT stays; no REPLY is"
            + " sent, it does not TAKE)", () -> {
                OrderedWorks x = three();
                Air.fill(x, 0, 1);
                x.sync(0);
                Air.settle(x);
                Air.stampTo(x, 0, 1, 2);
                Air.stampTo(x, 0, 1);
                Air.stampTo(x, 0, 0);
                Air.clear(x);
                Air.stampTo(x, 0, 2);
                Air.clear(x);
                Check.due("2 holds one", x.replica(2, 7), 1);
                Check.due("SYNCED 1", x.replica(2, 10), 1);
                x.suspect(1);
                x.suspect(0);
                Air.deliver(x, Air.TURNED, 0, 1);
                int sent = x.about(1);
                int length = x.replica(1, 5);
                Air.deliver(x, Air.START, 1, 2);
                Check.due("its log", x.replica(2, 5), length);
                Check.text("the same", Air.log(x, 2), Air.log(x, 1));
                Check.due("none HELD", x.replica(2, 7), 0);
                Check.due("SYNCED 0", x.replica(2, 10), 0);
                Check.due("POINT stays", x.replica(2, 6), 1);
                Check.due("nothing is sent", x.about(1), sent);
                Check.due("NORMAL last", x.replica(2, 8), 1);
                OrderedWorks y = three();
                Air.fill(y, 0, 2);
                Air.stampTo(y, 0, 2);
                Air.clear(y);
                Check.due("three entries", y.replica(2, 5), 3);
                y.suspect(0);
                y.suspect(1);
                Air.deliver(y, Air.TURNED, 0, 1);
                Air.deliver(y, Air.START, 1, 2);
                Check.due("a shorter log, too", y.replica(2, 5), 2);
                Check.due("the third is gone", y.entry(2, 3, 0), -1);
            });
    }

    private static void pings() {
        Sentence.holds("PING", "PING (w), if w is not its view and not behind it: it TURNS to both JOINED.", () -> {
            OrderedWorks x = startSent();
            Air.clear(x);
            x.tick(3);
            Air.deliver(x, Air.PING, 1, 0);
            Check.text("behind w: to w", Air.view(x, 0), "(1, 1) CHANGE");
            nothing(x, "w is its view", Air.PING, 1, 2);
            int old = Air.number(x, Air.PING, 0, 1);
            Check.yes("0 led (0, 1) and spoke", old >= 0);
            nothing(x, "w is behind its view", Air.PING, 0, 1);
            turnTo2(x, 4);
            Air.deliver(x, Air.PING, 1, 4);
            Check.text("neither is behind: joined", Air.view(x, 4), "(1, 2) CHANGE");
        });
    }
}
