/** The boundary cases of what is done to replicas and seen of them: promises 7 to 11 and 16 to 18. */
public final class EdgesReplicasTest {
    private static final Class<?> BOUNDS = IndexOutOfBoundsException.class;
    private static final Class<?> STATE = IllegalStateException.class;
    private static final int[] FAR = {-1, Integer.MIN_VALUE, Integer.MAX_VALUE};

    public static void main(String[] args) {
        noSuch();
        promise7();
        whatDownForgets();
        whatDownLeaves();
        promise8();
        promise9();
        promise10();
        nudgedInChange();
        nudgedFollowers();
        promise11();
        atFirst();
        allDifferent();
        promise16();
        promise17();
        promise18();
        Sentence.end();
    }

    private interface ByReplica {
        void go(OrderedWorks x, int replica);
    }

    /** Of each size of N: replica N is not there, and N - 1 is. */
    private static void none(ByReplica call) {
        for (int n = 0; n < 3; n++) {
            OrderedWorks x = new OrderedWorks(n, 0);
            int size = 3 + 2 * n;
            Check.thrown("replica N", BOUNDS, () -> call.go(x, size));
            for (int far : FAR) {
                Check.thrown("replica " + far, BOUNDS, () -> call.go(x, far));
            }
        }
    }

    private static void noSuch() {
        Sentence.holds("Promise 7", "A replica goes DOWN. IndexOutOfBoundsException: there is none such.", () -> {
            none((x, r) -> x.down(r));
            OrderedWorks x = new OrderedWorks(2, 0);
            x.down(0);
            x.down(6);
            Check.due("the first", x.replica(0, 0), 1);
            Check.due("the last", x.replica(6, 0), 1);
        });
        Sentence.holds("Promise 8", "It is there again. IndexOutOfBoundsException: there is none such.", () -> {
            none((x, r) -> x.up(r));
        });
        Sentence.holds("Promise 9", "it TURNS to (L + 1, S). IndexOutOfBoundsException: there is none such.", () -> {
            none((x, r) -> x.suspect(r));
            OrderedWorks x = new OrderedWorks(1, 0);
            x.suspect(4);
            Check.due("the last", x.replica(4, 2), 1);
        });
        Sentence.holds("Promise 10", "(also such as were lost at once). IndexOutOfBoundsException: there is none such.",
            () -> none((x, r) -> x.nudge(r)));
        Sentence.holds("Promise 11", "SYNC of its whole log is sent to all others. IndexOutOfBoundsException: there is"
            + " none such.", () -> none((x, r) -> x.sync(r)));
    }

    private static void promise7() {
        Sentence.holds("Promise 7", "IllegalStateException: it is DOWN, or F are.", () -> {
            for (int n = 0; n < 3; n++) {
                OrderedWorks x = new OrderedWorks(n, 0);
                int half = n + 1;
                for (int r = 0; r < half; r++) {
                    x.down(r);
                    int again = r;
                    Check.thrown("it is DOWN", STATE, () -> x.down(again));
                }
                for (int r = half; r <= 2 * half; r++) {
                    int more = r;
                    Check.thrown("F are", STATE, () -> x.down(more));
                    Check.due("it is not DOWN", x.replica(r, 0), 0);
                }
                x.up(0);
                x.down(2 * half);
                Check.due("F - 1 were: one more may be", x.replica(2 * half, 0), 1);
                Check.thrown("F are again", STATE, () -> x.down(0));
            }
        });
    }

    private static void whatDownForgets() {
        Sentence.holds("Terms", "A replica that goes DOWN holds and counts nothing any more", () -> {
            OrderedWorks held = new OrderedWorks(0, 0);
            held.request(0, 0, 0, 0);
            Air.stampTo(held, 0, 1);
            Check.due("HELD", held.replica(1, 7), 1);
            held.down(1);
            Check.due("none are", held.replica(1, 7), 0);
            held.up(1);
            held.deliver(1);
            Check.text("number 2 is not there when number 1 comes", Air.log(held, 1), "0");

            OrderedWorks gap = inGap();
            Air.deliver(gap, Air.GAP_REPLY, 1, 0);
            gap.down(0);
            gap.up(0);
            Air.deliver(gap, Air.GAP_REPLY, 2, 0);
            Check.due("GAP REPLYs: one of two", gap.replica(0, 1), 1);
            Air.deliver(gap, Air.GAP_REPLY, 3, 0);
            Check.due("two", gap.replica(0, 1), 0);

            OrderedWorks sync = synced();
            Air.deliver(sync, Air.SYNC_REPLY, 1, 0);
            sync.down(0);
            sync.up(0);
            Air.deliver(sync, Air.SYNC_REPLY, 2, 0);
            Check.due("SYNC REPLYs: one of two", sync.replica(0, 6), 0);
            Air.deliver(sync, Air.SYNC_REPLY, 3, 0);
            Check.due("two", sync.replica(0, 6), 1);

            OrderedWorks turned = new OrderedWorks(1, 0);
            turned.suspect(2);
            turned.suspect(3);
            turned.suspect(4);
            Air.deliver(turned, Air.TURNED, 2, 1);
            turned.down(1);
            turned.up(1);
            Air.deliver(turned, Air.TURNED, 3, 1);
            Check.due("TURNEDs: one of two", turned.replica(1, 1), 2);
            Air.deliver(turned, Air.TURNED, 4, 1);
            Check.due("two", turned.replica(1, 1), 0);
        });
    }

    /** Five replicas; the leader is in GAP at slot 1, and all GAP REPLYs lie in the air. */
    private static OrderedWorks inGap() {
        OrderedWorks x = new OrderedWorks(1, 0);
        x.request(0, 0, 0, 0);
        Air.clear(x);
        Air.stampTo(x, 0, 0);
        for (int r = 1; r < 5; r++) {
            Air.deliver(x, Air.GAP_COMMIT, 0, r);
        }
        return x;
    }

    /** Five replicas with one entry each, and all SYNC REPLYs in the air. */
    private static OrderedWorks synced() {
        OrderedWorks x = new OrderedWorks(1, 0);
        Air.whole(x, 0, 1, 0, 1);
        x.sync(0);
        for (int r = 1; r < 5; r++) {
            Air.deliver(x, Air.SYNC, 0, r);
        }
        return x;
    }

    private static void whatDownLeaves() {
        Sentence.holds("Terms", "all else of it stays, also for when it is up again", () -> {
            OrderedWorks x = new OrderedWorks(0, 0);
            Air.whole(x, 0, 1, 0, 5);
            x.install();
            Air.whole(x, 0, 2, 0, 1);
            Air.stamp(x, 0);
            Air.settle(x);
            x.sync(0);
            Air.settle(x);
            for (int round = 0; round < 2; round++) {
                int[] before = state(x, 1);
                int word = x.word(1, 0);
                x.down(1);
                Check.due("DOWN", x.replica(1, 0), 1);
                stays(x, before);
                Check.due("its word", x.word(1, 0), word);
                x.tick(2);
                x.up(1);
                stays(x, before);
                Check.due("its word", x.word(1, 0), word);
                x.suspect(1);
            }
            OrderedWorks gap = inGap();
            gap.down(0);
            Check.due("GAP", gap.replica(0, 1), 1);
            Check.due("with its NOTHING", gap.entry(0, 1, 0), 0);
        });
    }

    private static int[] state(OrderedWorks x, int r) {
        int[] state = new int[11];
        for (int what = 1; what < state.length; what++) {
            state[what] = x.replica(r, what);
        }
        return state;
    }

    private static void stays(OrderedWorks x, int[] before) {
        for (int what = 1; what < before.length; what++) {
            Check.due("what = " + what, x.replica(1, what), before[what]);
        }
    }

    private static void promise8() {
        Sentence.holds("Promise 8", "IllegalStateException: it is not DOWN.", () -> {
            OrderedWorks x = new OrderedWorks(0, 0);
            Check.thrown("it never was", STATE, () -> x.up(0));
            x.down(0);
            Check.thrown("another one is", STATE, () -> x.up(1));
            x.up(0);
            Check.due("there again", x.replica(0, 0), 0);
            Check.thrown("it is up", STATE, () -> x.up(0));
        });
    }

    private static void promise9() {
        Sentence.holds("Promise 9", "It suspects its leader, in CHANGE too: it TURNS to (L + 1, S).", () -> {
            OrderedWorks x = new OrderedWorks(0, 0);
            for (int lead = 1; lead <= 9; lead++) {
                int sent = x.about(1);
                x.suspect(1);
                Check.text("the next lead", Air.view(x, 1), "(" + lead + ", 1) CHANGE");
                Check.due("no TURNED to itself where it leads", x.about(1) - sent, lead % 3 == 1 ? 2 : 3);
                if (lead % 3 != 1) {
                    Check.due("TURNED to L modulo N", x.message(x.about(0) - 1, 3), lead % 3);
                }
            }
            x.suspect(0);
            Check.text("one that leads suspects itself", Air.view(x, 0), "(1, 1) CHANGE");
        });
        Sentence.holds("Promise 9", "IllegalStateException: it is DOWN.", () -> {
            OrderedWorks x = new OrderedWorks(0, 0);
            x.down(2);
            Check.thrown("suspect", STATE, () -> x.suspect(2));
            Check.thrown("nudge", STATE, () -> x.nudge(2));
            Check.text("it stays", Air.view(x, 2), "(0, 1) NORMAL");
            x.up(2);
            x.suspect(2);
            Check.text("up again", Air.view(x, 2), "(1, 1) CHANGE");
        });
    }

    private static void promise10() {
        Sentence.holds("Promise 10", "in GAP GAP COMMIT is sent to all others (nothing is counted anew)", () -> {
            OrderedWorks x = inGap();
            Air.deliver(x, Air.GAP_REPLY, 1, 0);
            int lie = x.about(0);
            Check.due("how many", x.nudge(0), 4);
            Check.text("to all others", Air.behind(x, lie), "3:0>1 3:0>2 3:0>3 3:0>4");
            Check.text("of the last slot", Air.tells(x, lie), "0 1 1");
            Air.deliver(x, Air.GAP_REPLY, 2, 0);
            Check.due("the GAP REPLY before it counts", x.replica(0, 1), 0);
        });
        Sentence.holds("Promise 10", "else nothing: how many messages were sent", () -> {
            OrderedWorks x = new OrderedWorks(0, 0);
            for (int r = 0; r < 3; r++) {
                Check.due("NORMAL without any HELD", x.nudge(r), 0);
            }
            Air.fill(x, 0, 100);
            Air.stampTo(x, 0, 0);
            Check.due("a leader whose log is full has one HELD", x.replica(0, 7), 1);
            Check.due("and asks nothing", x.nudge(0), 0);
            Check.due("nothing was sent", x.about(0), 0);
        });
        Sentence.holds("Promise 10", "how many messages were sent (also such as were lost at once)", () -> {
            OrderedWorks x = new OrderedWorks(1, 0);
            x.suspect(2);
            Air.clear(x);
            x.request(0, 0, 0, 0);
            for (int i = 1; i < 39; i++) {
                x.again(0);
            }
            Check.due("195 lie there", x.about(0), 195);
            x.lose(x.message(0, 0));
            x.lose(x.message(0, 0));
            Check.due("all have a place", x.nudge(2), 5);
            Check.due("none is lost", x.about(2), 7);
            Check.due("two have a place", x.nudge(2), 5);
            Check.due("three are lost", x.about(2), 10);
            Check.due("none has a place", x.nudge(2), 5);
            Check.due("five are lost", x.about(2), 15);
        });
    }

    private static void nudgedInChange() {
        Sentence.holds("Promise 10", "in CHANGE TURN, and TURNED (but to itself)", () -> {
            OrderedWorks x = new OrderedWorks(1, 0);
            x.suspect(2);
            Air.clear(x);
            Check.due("it does not lead", x.nudge(2), 5);
            Check.text("TURN first", Air.behind(x, 0), "8:2>0 8:2>1 8:2>3 8:2>4 9:2>1");
            Check.text("the same view", Air.view(x, 2), "(1, 1) CHANGE");
            x.suspect(1);
            Air.clear(x);
            Check.due("it leads", x.nudge(1), 4);
            Check.text("no TURNED", Air.behind(x, 0), "8:1>0 8:1>2 8:1>3 8:1>4");
            Air.clear(x);
            x.nudge(2);
            Air.deliver(x, Air.TURNED, 2, 1);
            x.nudge(1);
            x.suspect(3);
            Air.deliver(x, Air.TURNED, 3, 1);
            Check.text("TURNEDs are not counted anew", Air.view(x, 1), "(1, 1) NORMAL");
        });
    }

    private static void nudgedFollowers() {
        Sentence.holds("Promise 10", "NORMAL and not leading, with some HELD, LOOKUP (view, the next slot, 101 too)", () -> {
            OrderedWorks x = new OrderedWorks(0, 0);
            x.request(0, 0, 0, 0);
            Air.clear(x);
            Air.stampTo(x, 0, 2);
            Air.clear(x);
            Check.due("one", x.nudge(2), 1);
            Check.text("to the leader", Air.behind(x, 0), "1:2>0");
            Check.text("the first slot", Air.tells(x, 0), "0 1 1");
            OrderedWorks y = new OrderedWorks(0, 0);
            Air.fill(y, 0, 99);
            y.again(0);
            Air.clear(y);
            Air.stampTo(y, 0, 2);
            Air.clear(y);
            Check.due("99 entries", y.nudge(2), 1);
            Check.text("slot 100", Air.tells(y, 0), "0 1 100");
            OrderedWorks z = new OrderedWorks(0, 0);
            Air.fill(z, 0, 100);
            Check.due("100 entries and none HELD", z.nudge(2), 0);
            Air.stampTo(z, 0, 2);
            Check.due("100 entries, and one HELD", z.replica(2, 7), 1);
            Check.due("nothing was sent by that", z.about(0), 0);
            Check.due("one", z.nudge(2), 1);
            Check.text("slot 101", Air.tells(z, 0), "0 1 101");
        });
    }

    private static void promise11() {
        Sentence.holds("Promise 11", "SYNC of its whole log is sent to all others.", () -> {
            OrderedWorks x = new OrderedWorks(0, 0);
            x.sync(0);
            Check.text("an empty log", Air.tells(x, 0), "0 1 0");
            Air.clear(x);
            Air.fill(x, 0, 1);
            x.sync(0);
            Check.text("one entry", Air.tells(x, 0), "0 1 1 1 0 1 2 0 1");
            Air.clear(x);
            Air.fill(x, 0, 99);
            x.sync(0);
            Check.text("to all others", Air.behind(x, 0), "5:0>1 5:0>2");
            Check.due("100 entries", x.wire(1), 3 + 2 + 1 + 900 + 4);
        });
        Sentence.holds("Promise 11", "IllegalStateException: it is DOWN, does not lead, or is not NORMAL.", () -> {
            OrderedWorks down = new OrderedWorks(0, 0);
            down.down(0);
            Check.thrown("DOWN, leading and NORMAL", STATE, () -> down.sync(0));
            down.up(0);
            Check.thrown("NORMAL, not leading", STATE, () -> down.sync(1));
            OrderedWorks gap = inGap();
            Check.thrown("in GAP", STATE, () -> gap.sync(0));
            OrderedWorks change = new OrderedWorks(0, 0);
            change.suspect(1);
            Check.thrown("leading, in CHANGE", STATE, () -> change.sync(1));
            change.suspect(2);
            Air.deliver(change, Air.TURNED, 2, 1);
            change.sync(1);
            Check.due("then NORMAL", Air.count(change, Air.SYNC), 2);
            change.sync(0);
            Check.due("an older leader, too", Air.count(change, Air.SYNC), 4);
        });
    }

    private static void atFirst() {
        Sentence.holds("Terms", "a STATUS: NORMAL (at first), GAP or CHANGE", () -> {
            int[] due = {0, 0, 0, 1, 0, 0, 0, 0, 0, 1, 0};
            for (int n = 0; n < 3; n++) {
                OrderedWorks x = new OrderedWorks(n, 0);
                for (int r = 0; r < 3 + 2 * n; r++) {
                    for (int what = 0; what < due.length; what++) {
                        Check.due("what = " + what, x.replica(r, what), due[what]);
                    }
                }
            }
        });
        Sentence.holds("Terms", "a LOG of at most 100 ENTRIES, each a request or a NOTHING, in slots from 1 on", () -> {
            OrderedWorks x = new OrderedWorks(0, 0);
            for (int i = 0; i < 50; i++) {
                Air.stampTo(x, 0);
                Air.stampTo(x, 0, 0, 1);
                Air.deliver(x, Air.GAP_COMMIT, 0, 1);
                Air.deliver(x, Air.GAP_REPLY, 1, 0);
                Air.clear(x);
            }
            Check.due("100", x.replica(0, 5), 100);
            for (int i = 0; i < 4; i++) {
                Air.stampTo(x, 0, 0, 1);
            }
            for (int r = 0; r < 2; r++) {
                Check.due("no more", x.replica(r, 5), 100);
                Check.due("slot 1 is a NOTHING", x.entry(r, 1, 0), 0);
                Check.due("slot 2 is a request", x.entry(r, 2, 0), 1);
                Check.due("slot 100 is a request", x.entry(r, 100, 0), 1);
                Check.due("there is no slot 0", x.entry(r, 0, 0), -1);
                Check.due("nor 101", x.entry(r, 101, 0), -1);
            }
        });
        Sentence.holds("Terms", "a row of HELD requests by numbers, which have slots behind its log's end", () -> {
            OrderedWorks x = new OrderedWorks(0, 0);
            Air.stampTo(x, 0);
            for (int i = 0; i < 3; i++) {
                Air.stampTo(x, 0, 1);
            }
            Check.due("2, 3 and 4", x.replica(1, 7), 3);
            Check.due("behind an empty log", x.replica(1, 5), 0);
            Air.stampTo(x, 0, 0);
            Air.deliver(x, Air.GAP_COMMIT, 0, 1);
            Check.due("all are taken behind the NOTHING", x.replica(1, 5), 4);
            Check.due("none is HELD", x.replica(1, 7), 0);
        });
    }

    private static void allDifferent() {
        Sentence.holds("Promise 16", "L (2), S (3), BASE (4), its log's length (5), POINT (6), how many are HELD (7), L and S of"
            + " the view in which it was NORMAL last (8, 9), how far it is SYNCED (10)", () -> {
                OrderedWorks x = new OrderedWorks(0, 0);
                Air.fill(x, 0, 1);
                x.install();
                x.install();
                x.install();
                Air.stampTo(x, 0, 0, 1, 2);
                Air.settle(x);
                Check.text("session 4", Air.view(x, 2), "(0, 4) NORMAL");
                Air.stampTo(x, 0, 0, 1, 2);
                Air.settle(x);
                x.sync(0);
                Air.settle(x);
                Check.due("POINT", x.replica(2, 6), 3);
                Air.stampTo(x, 1, 0, 1, 2);
                Air.stampTo(x, 1, 0, 1, 2);
                x.sync(0);
                Air.deliver(x, Air.SYNC, 0, 2);
                Air.stampTo(x, 1, 2);
                Air.stampTo(x, 1);
                Air.stampTo(x, 1, 2);
                Air.stampTo(x, 1, 2);
                int[] due = {0, 0, 0, 4, 1, 6, 3, 2, 0, 4, 5};
                for (int what = 0; what < due.length; what++) {
                    Check.due("what = " + what, x.replica(2, what), due[what]);
                }
                x.suspect(2);
                x.suspect(2);
                int[] then = {0, 2, 2, 4, 1, 6, 3, 0, 0, 4, 0};
                for (int what = 0; what < then.length; what++) {
                    Check.due("in CHANGE, what = " + what, x.replica(2, what), then[what]);
                }
                x.install();
                Air.stampTo(x, 1, 2);
                int[] last = {0, 2, 2, 5, 1, 6, 3, 0, 0, 4, 0};
                for (int what = 0; what < last.length; what++) {
                    Check.due("in another session, what = " + what, x.replica(2, what), last[what]);
                }
            });
    }

    private static void promise16() {
        Sentence.holds("Promise 16", "1 if it is DOWN, else 0 (what = 0), its STATUS (1: 0 NORMAL, 1 GAP, 2 CHANGE)", () -> {
            OrderedWorks x = inGap();
            Check.due("GAP", x.replica(0, 1), 1);
            Check.due("NORMAL", x.replica(1, 1), 0);
            x.suspect(1);
            Check.due("CHANGE", x.replica(1, 1), 2);
            Check.due("up", x.replica(1, 0), 0);
            x.down(1);
            Check.due("DOWN", x.replica(1, 0), 1);
        });
        Sentence.holds("Promise 16", "NONE for another what, or replica.", () -> {
            for (int n = 0; n < 3; n++) {
                OrderedWorks x = new OrderedWorks(n, 0);
                int size = 3 + 2 * n;
                for (int what = -1; what < 12; what++) {
                    Check.due("replica N", x.replica(size, what), -1);
                    for (int far : FAR) {
                        Check.due("replica " + far, x.replica(far, what), -1);
                    }
                }
                for (int what : new int[] {-1, 11, Integer.MIN_VALUE, Integer.MAX_VALUE}) {
                    Check.due("what = " + what, x.replica(0, what), -1);
                    Check.due("what = " + what, x.replica(size - 1, what), -1);
                }
                Check.due("10 is the last", x.replica(size - 1, 10), 0);
            }
        });
    }

    private static void promise17() {
        Sentence.holds("Promise 17", "1 a request, 0 a NOTHING (what = 0); of a request its client (1), number (2), kind (3), key"
            + " (4), word", () -> {
                OrderedWorks x = new OrderedWorks(0, 0);
                Air.whole(x, 3, 0, 0, 0);
                Air.whole(x, 3, 1, 7, Integer.MIN_VALUE);
                Air.whole(x, 0, 2, 4, Integer.MAX_VALUE);
                int[][] due = {{1, 3, 1, 0, 0, 0}, {1, 3, 2, 1, 7, Integer.MIN_VALUE}, {1, 0, 1, 2, 4, Integer.MAX_VALUE}};
                for (int slot = 1; slot <= 3; slot++) {
                    for (int what = 0; what < 6; what++) {
                        Check.due("slot " + slot + ", what = " + what, x.entry(2, slot, what), due[slot - 1][what]);
                    }
                }
            });
        Sentence.holds("Promise 17", "NONE for 1 .. 4 of a NOTHING", () -> {
            OrderedWorks x = inGap();
            Check.due("a NOTHING", x.entry(0, 1, 0), 0);
            for (int what = 1; what < 5; what++) {
                Check.due("what = " + what, x.entry(0, 1, what), -1);
            }
            Check.due("its word", x.entry(0, 1, 5), 0);
        });
        Sentence.holds("Promise 17", "(5; 0 of a NOTHING, and if there is no such entry or replica)", () -> {
            OrderedWorks x = inGap();
            Check.due("a NOTHING", x.entry(0, 1, 5), 0);
            Check.due("no such entry", x.entry(0, 2, 5), 0);
            Check.due("no such entry", x.entry(0, 0, 5), 0);
            Check.due("no such replica", x.entry(5, 1, 5), 0);
            Check.due("no such replica", x.entry(-1, 1, 5), 0);
        });
        Sentence.holds("Promise 17", "for 0 .. 4 if there is none such, and for another what", () -> {
            OrderedWorks x = new OrderedWorks(0, 0);
            Air.fill(x, 3, 100);
            int[] request = {1, 3, 1, 2, 0, 1};
            for (int what = 0; what < 6; what++) {
                Check.due("slot 1", x.entry(2, 1, what), request[what]);
                Check.due("slot 100", x.entry(2, 100, what), request[what]);
            }
            for (int what = 0; what < 5; what++) {
                Check.due("slot 0", x.entry(0, 0, what), -1);
                Check.due("slot 101", x.entry(0, 101, what), -1);
                Check.due("replica N", x.entry(3, 1, what), -1);
                for (int far : FAR) {
                    Check.due("slot " + far, x.entry(0, far, what), -1);
                    Check.due("replica " + far, x.entry(far, 1, what), -1);
                }
                Check.due("an empty log", new OrderedWorks(0, 0).entry(0, 1, what), -1);
            }
            for (int what : new int[] {-1, 6, Integer.MIN_VALUE, Integer.MAX_VALUE}) {
                Check.due("of a request", x.entry(0, 1, what), -1);
                Check.due("of none", x.entry(0, 101, what), -1);
                Check.due("of a NOTHING", inGap().entry(0, 1, what), -1);
            }
        });
    }

    private static void promise18() {
        Sentence.holds("Promise 18", "A key's word by what a replica, DOWN or not, has EXECUTED; 0 for none such.", () -> {
            OrderedWorks x = new OrderedWorks(0, 0);
            Air.whole(x, 0, 1, 0, 10);
            Air.whole(x, 0, 1, 7, 17);
            x.sync(0);
            Air.settle(x);
            for (int r = 0; r < 3; r++) {
                Check.due("the first key", x.word(r, 0), 10);
                Check.due("the last key", x.word(r, 7), 17);
                x.down(r);
                Check.due("DOWN", x.word(r, 7), 17);
                x.up(r);
                Check.due("key 8", x.word(r, 8), 0);
                for (int far : FAR) {
                    Check.due("key " + far, x.word(r, far), 0);
                }
            }
            Check.due("replica N", x.word(3, 0), 0);
            for (int far : FAR) {
                Check.due("replica " + far, x.word(far, 0), 0);
            }
        });
    }
}
