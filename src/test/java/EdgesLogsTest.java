/** The boundary cases of logs: what is held, taken, missing, found, synced and executed. */
public final class EdgesLogsTest {
    public static void main(String[] args) {
        executed();
        taken();
        takenUpTo100();
        answeredByTheLeader();
        missing();
        stamped();
        heldMost();
        lookups();
        found();
        gapCommits();
        gapReplies();
        syncs();
        syncsInChange();
        syncReplies();
        points();
        Sentence.end();
    }

    private static OrderedWorks three() {
        return new OrderedWorks(0, 0);
    }

    private static OrderedWorks five() {
        return new OrderedWorks(1, 0);
    }

    private static void executed() {
        Sentence.holds("EXECUTED", "EXECUTED are all entries of a replica that leads its view and is not in CHANGE", () -> {
            OrderedWorks x = three();
            Air.stampTo(x, 0, 0);
            Check.due("the leader's, with POINT 0", x.word(0, 0), 1);
            x.again(0);
            Air.lose(x, Air.STAMPED, -1, 0);
            Air.stampTo(x, 0, 0);
            Check.text("in GAP, too", Air.view(x, 0), "(0, 1) GAP");
            Check.due("all entries", x.word(0, 0), 1);
            x.suspect(0);
            x.suspect(0);
            x.suspect(0);
            Check.text("leading, in CHANGE", Air.view(x, 0), "(3, 1) CHANGE");
            Check.due("none, as POINT is 0", x.word(0, 0), 0);
        });
        Sentence.holds("EXECUTED", "of any other one those up to POINT", () -> {
            OrderedWorks x = three();
            Air.stampedToAll(x, 0);
            Air.stampedToAll(x, 1);
            x.sync(0);
            Air.settle(x);
            Air.whole(x, 2, 1, 0, 5);
            Check.due("three entries", x.replica(1, 5), 3);
            Check.due("two up to POINT", x.replica(1, 6), 2);
            Check.due("PUT of 1, the third is not executed", x.word(1, 0), 1);
            Check.due("the leader's", x.word(0, 0), 5);
        });
        Sentence.holds("EXECUTED", "a request whose number is not above that of its client's latest executed one does nothing",
            () -> {
                OrderedWorks x = three();
                Air.stampTo(x, 0, 0, 1, 2);
                Air.stampTo(x, 0, 0, 1, 2);
                Check.text("the same request twice", Air.log(x, 0), "00");
                Check.due("it is executed once", x.word(0, 0), 1);
                Air.settle(x);
                Check.due("accepted", x.client(0, 1), 2);
                Air.whole(x, 0, 2, 0, 10);
                Check.due("a higher number", x.word(0, 0), 11);
                Air.whole(x, 1, 2, 0, 100);
                Check.due("the first number of another client", x.word(0, 0), 111);
            });
        Sentence.holds("EXECUTED", "else its ANSWER is its key's word, and with PUT that becomes its word", () -> {
            OrderedWorks x = three();
            Air.whole(x, 0, 1, 3, Integer.MIN_VALUE);
            Check.due("the first ANSWER is 0", x.answer(0), 0);
            Air.whole(x, 0, 1, 3, 0);
            Check.due("the next one is the word", x.answer(0), Integer.MIN_VALUE);
            Check.due("0 is a word, too", x.word(0, 3), 0);
        });
        Sentence.holds("EXECUTED", "with ADD it grows by it (32 bits that run over)", () -> {
            OrderedWorks x = three();
            Air.whole(x, 0, 1, 3, Integer.MAX_VALUE);
            Air.whole(x, 0, 2, 3, 1);
            Check.due("over the top", x.word(0, 3), Integer.MIN_VALUE);
            Air.whole(x, 0, 2, 3, -1);
            Check.due("below the bottom", x.word(0, 3), Integer.MAX_VALUE);
            Air.whole(x, 0, 2, 3, Integer.MIN_VALUE);
            Check.due("half around", x.word(0, 3), -1);
            Check.due("its ANSWER is the word before", x.answer(0), Integer.MAX_VALUE);
        });
    }

    private static void taken() {
        Sentence.holds("TAKES", "as long as the number whose slot is the next one is HELD", () -> {
            OrderedWorks x = three();
            for (int c = 0; c < 4; c++) {
                x.request(c, 0, 0, 0);
            }
            x.again(0);
            x.deliver(3 + 2);
            x.deliver(6 + 2);
            x.deliver(12 + 2);
            Check.due("2, 3 and 5 are HELD", x.replica(2, 7), 3);
            Check.text("none is taken", Air.log(x, 2), "");
            x.deliver(2);
            Check.text("with 1 come 2 and 3", Air.log(x, 2), "012");
            Check.due("5 is HELD still", x.replica(2, 7), 1);
            Check.text("and 4 is looked up", Air.tells(x, x.about(0) - 1), "0 1 4");
        });
        Sentence.holds("TAKES", "it is held no more, it is the next entry", () -> {
            int[][] orders = {{2, 3, 4, 1}, {4, 3, 2, 1}, {3, 2, 4, 1}, {2, 4, 3, 1}, {4, 2, 3, 1}, {3, 4, 2, 1}};
            for (int[] order : orders) {
                OrderedWorks x = three();
                for (int c = 0; c < 4; c++) {
                    x.request(c, 0, 0, 0);
                }
                for (int k : order) {
                    x.deliver(3 * (k - 1) + 2);
                }
                Check.text("in the order of their numbers", Air.log(x, 2), "0123");
                Check.due("none is HELD", x.replica(2, 7), 0);
            }
        });
        Sentence.holds("Terms", "a BASE, 0 at first: number k of its session has slot BASE + k", () -> {
            OrderedWorks x = based();
            for (int r = 0; r < 3; r++) {
                Check.due("BASE", x.replica(r, 4), 2);
            }
            Air.deliver(x, Air.STAMPED, -1, 0);
            Check.text("number 1 has slot 3", Air.log(x, 0), "012");
            Air.deliver(x, Air.STAMPED, -1, 2);
            Check.text("number 1 has slot 3", Air.log(x, 2), "012");
            Air.stampTo(x, 3, 1);
            Check.due("number 2 is HELD", x.replica(1, 7), 1);
            Check.text("slot 3 is looked up", Air.tells(x, Air.LOOKUP, 1, 0), "0 2 3");
            Air.deliver(x, Air.LOOKUP, 1, 0);
            Air.deliver(x, Air.FOUND, 0, 1);
            Check.text("slot 3 is number 1, slot 4 is number 2", Air.log(x, 1), "0123");
            Check.due("none is HELD", x.replica(1, 7), 0);
        });
        Sentence.holds("GAP COMMIT", "a NOTHING comes there (what was held for it is not", () -> {
            OrderedWorks x = based();
            Air.stampTo(x, 3, 0, 2);
            Check.text("number 1 is missing: slot 3", Air.log(x, 0), "01-");
            Check.due("number 2 is HELD", x.replica(2, 7), 1);
            Air.stampTo(x, 3);
            Air.stampTo(x, 3);
            Air.stampTo(x, 3, 2);
            Check.due("so is number 5", x.replica(2, 7), 2);
            Air.deliver(x, Air.GAP_COMMIT, 0, 2);
            Check.text("number 2 was HELD for slot 4, not 3", Air.log(x, 2), "01-3");
            Check.due("and number 5 for slot 7", x.replica(2, 7), 1);
        });
    }

    /**
     * Three replicas in session 2, each with two entries of session 1: BASE is 2. In the air are two STAMPEDs alone,
     * of number 1, to the replicas 0 and 2; replica 1 turned by its own.
     */
    private static OrderedWorks based() {
        OrderedWorks x = three();
        Air.whole(x, 0, 1, 0, 1);
        Air.whole(x, 1, 1, 0, 1);
        x.install();
        x.request(2, 2, 0, 1);
        Air.deliver(x, Air.STAMPED, -1, 1);
        Air.deliver(x, Air.TURNED, 1, 0);
        Air.deliver(x, Air.START, 0, 1);
        Air.deliver(x, Air.START, 0, 2);
        for (int k = x.about(0) - 1; k >= 0; k--) {
            if (x.message(k, 1) != Air.STAMPED) {
                x.lose(x.message(k, 0));
            }
        }
        return x;
    }

    private static void takenUpTo100() {
        Sentence.holds("TAKES", "is HELD, and there are fewer than 100 entries: it is held no more, it is the next entry", () -> {
            OrderedWorks x = three();
            Air.fill(x, 0, 99);
            Air.stampTo(x, 0, 0, 1, 2);
            for (int r = 0; r < 3; r++) {
                Check.due("the hundredth", x.replica(r, 5), 100);
                Check.due("none is HELD", x.replica(r, 7), 0);
            }
            Check.due("REPLYs of it", Air.count(x, Air.REPLY), 3);
            Air.stampTo(x, 0, 0, 1, 2);
            for (int r = 0; r < 3; r++) {
                Check.due("no more", x.replica(r, 5), 100);
                Check.due("it stays HELD", x.replica(r, 7), 1);
                Check.text("NORMAL", Air.view(x, r), "(0, 1) NORMAL");
            }
            Check.due("no REPLY of it", Air.count(x, Air.REPLY), 3);
        });
        Sentence.holds("TAKES", "if some are still HELD and there are fewer than 100 entries, something is MISSING", () -> {
            OrderedWorks x = three();
            Air.fill(x, 0, 99);
            x.again(0);
            Air.clear(x);
            Air.stampTo(x, 0, 0, 1);
            Check.due("slot 100 is missing, the leader has a NOTHING there", x.entry(0, 100, 0), 0);
            Check.text("GAP", Air.view(x, 0), "(0, 1) GAP");
            Check.text("the other one looks it up", Air.tells(x, Air.LOOKUP, 1, 0), "0 1 100");
            Air.deliver(x, Air.GAP_COMMIT, 0, 1);
            Check.due("it has the NOTHING, too", x.entry(1, 100, 0), 0);
            Check.due("what is HELD stays", x.replica(1, 7), 1);
            Air.deliver(x, Air.GAP_REPLY, 1, 0);
            Check.text("with 100 entries nothing is missing", Air.view(x, 0), "(0, 1) NORMAL");
            Check.due("what is HELD stays", x.replica(0, 7), 1);
            Check.due("100 entries", x.replica(0, 5), 100);
        });
    }

    private static void answeredByTheLeader() {
        Sentence.holds("TAKES", "REPLY (view, slot, the request's number; by the leader, the ANSWER that its client's latest"
            + " executed request had) is sent to its client", () -> {
                OrderedWorks x = three();
                Air.whole(x, 1, 1, 0, 7);
                Air.stampTo(x, 0, 0, 1);
                Check.text("by the leader", Air.tells(x, Air.REPLY, 0, 0), "0 1 2 1 1 7");
                Check.text("by another one", Air.tells(x, Air.REPLY, 1, 0), "0 1 2 1 0");
                Air.clear(x);
                Air.stampTo(x, 0, 0);
                Check.text("a repeated one has the ANSWER of the first", Air.tells(x, Air.REPLY, 0, 0), "0 1 3 1 1 7");
                Check.due("the word is another one now", x.word(0, 0), 8);
            });
    }

    private static void missing() {
        Sentence.holds("TAKES", "the leader has a NOTHING as the next entry, is in GAP, counts GAP REPLYs anew (SYNC REPLYs"
            + " not), and sends GAP COMMIT (view, that slot) to all others", () -> {
                OrderedWorks x = five();
                x.request(0, 0, 0, 0);
                Air.clear(x);
                Air.stampTo(x, 0, 0);
                Check.text("to all others", Air.behind(x, 0), "3:0>1 3:0>2 3:0>3 3:0>4");
                Check.text("slot 1", Air.tells(x, 3), "0 1 1");
                Air.stampTo(x, 1);
                Air.stampTo(x, 1, 0);
                for (int r = 1; r < 5; r++) {
                    Air.deliver(x, Air.GAP_COMMIT, 0, r);
                }
                Air.deliver(x, Air.GAP_REPLY, 1, 0);
                Air.deliver(x, Air.GAP_REPLY, 2, 0);
                Check.text("slot 3 is missing, too", Air.log(x, 0), "-0-");
                Check.text("GAP", Air.view(x, 0), "(0, 1) GAP");
                Check.text("GAP COMMIT of slot 3", Air.tells(x, Air.GAP_COMMIT, 0, 3), "0 1 3");
                Air.stampTo(x, 1, 3);
                Air.deliver(x, Air.LOOKUP, 3, 0);
                Air.deliver(x, Air.FOUND, 0, 3);
                Air.deliver(x, Air.GAP_COMMIT, 0, 3);
                x.deliver(Air.last(x, Air.GAP_REPLY, 3, 0));
                Check.text("counted anew: one of two", Air.view(x, 0), "(0, 1) GAP");
            });
        Sentence.holds("TAKES", "counts GAP REPLYs anew (SYNC REPLYs not)", () -> {
            OrderedWorks x = five();
            Air.fill(x, 0, 1);
            x.sync(0);
            for (int r = 1; r < 5; r++) {
                Air.deliver(x, Air.SYNC, 0, r);
            }
            Air.deliver(x, Air.SYNC_REPLY, 1, 0);
            Air.stampTo(x, 0);
            Air.stampTo(x, 0, 0);
            Check.text("GAP", Air.view(x, 0), "(0, 1) GAP");
            Air.deliver(x, Air.SYNC_REPLY, 2, 0);
            Check.due("two of two", x.replica(0, 6), 1);
        });
        Sentence.holds("TAKES", "another one sends LOOKUP (view, the next slot) to the leader", () -> {
            OrderedWorks x = five();
            Air.stampTo(x, 0);
            Air.stampTo(x, 0, 4);
            Check.text("an empty log: slot 1", Air.behind(x, 0) + " " + Air.tells(x, 0), "1:4>0 0 1 1");
            Check.text("it stays NORMAL", Air.view(x, 4), "(0, 1) NORMAL");
            Check.due("and takes nothing", x.replica(4, 5), 0);
        });
    }

    private static void stamped() {
        Sentence.holds("STAMPED", "s above its S: it TURNS to (L, s)", () -> {
            OrderedWorks x = three();
            x.suspect(1);
            Air.clear(x);
            x.install();
            Air.stampTo(x, 0, 1);
            Check.text("in CHANGE", Air.view(x, 1), "(1, 2) CHANGE");
            Check.due("it is not HELD", x.replica(1, 7), 0);
            x.install();
            x.install();
            Air.stampTo(x, 0, 1, 2);
            Check.text("by more than one", Air.view(x, 1), "(1, 4) CHANGE");
            Check.text("NORMAL", Air.view(x, 2), "(0, 4) CHANGE");
            OrderedWorks y = three();
            Air.stampTo(y, 0);
            Air.stampTo(y, 0, 0);
            y.install();
            Air.stampTo(y, 0, 0);
            Check.text("in GAP", Air.view(y, 0), "(0, 2) CHANGE");
        });
        Sentence.holds("STAMPED", "Else, if s is S, it is not in CHANGE", () -> {
            OrderedWorks x = three();
            x.request(0, 0, 0, 0);
            x.suspect(1);
            x.deliver(1);
            Check.due("in CHANGE", x.replica(1, 7) + x.replica(1, 5), 0);
            x.install();
            Air.stampTo(x, 0, 1);
            Check.text("in CHANGE to session 2", Air.view(x, 1), "(1, 2) CHANGE");
            int sent = x.about(1);
            Air.stampTo(x, 0, 1);
            Check.due("one more of session 2: it does not turn again", x.about(1), sent + 3);
            Check.due("nor is it HELD", x.replica(1, 7), 0);
            OrderedWorks y = three();
            y.request(0, 0, 0, 0);
            y.install();
            Air.stampTo(y, 1, 1);
            Air.deliver(y, Air.TURNED, 1, 0);
            Check.text("session 2", Air.view(y, 0), "(0, 2) NORMAL");
            y.deliver(0);
            Check.text("s below S: it does not turn", Air.view(y, 0), "(0, 2) NORMAL");
            Check.due("nor is it HELD or taken", y.replica(0, 7) + y.replica(0, 5), 0);
        });
        Sentence.holds("STAMPED", "the slot is behind its log (above 100, too)", () -> {
            OrderedWorks x = three();
            x.request(0, 0, 0, 0);
            Air.stampTo(x, 0, 0);
            Check.text("GAP at slot 1", Air.log(x, 0), "-");
            x.deliver(0);
            Check.due("number 1, of the last slot, is not HELD", x.replica(0, 7), 1);
            Air.stampTo(x, 0, 0);
            Check.due("number 3 is", x.replica(0, 7), 2);
            OrderedWorks y = three();
            Air.fill(y, 0, 100);
            Air.stampTo(y, 0, 1);
            Check.due("slot 101", y.replica(1, 7), 1);
            for (int i = 0; i < 20; i++) {
                Air.stampTo(y, 0);
            }
            Air.stampTo(y, 0, 1);
            Check.due("slot 122", y.replica(1, 7), 2);
        });
        Sentence.holds("STAMPED", "it is HELD; and if it is NORMAL it TAKES", () -> {
            OrderedWorks x = three();
            Air.stampTo(x, 0);
            Air.stampTo(x, 0, 0);
            Air.stampTo(x, 0, 0);
            Check.text("in GAP nothing is taken", Air.log(x, 0), "-");
            Check.due("both are HELD", x.replica(0, 7), 2);
            Check.due("and no GAP COMMIT is sent again", Air.count(x, Air.GAP_COMMIT), 2);
        });
    }

    private static void heldMost() {
        Sentence.holds("STAMPED", "number k is not HELD and fewer than 8 are: it is HELD", () -> {
            OrderedWorks x = three();
            x.request(0, 2, 0, 1);
            for (int held = 1; held <= 8; held++) {
                Air.stampTo(x, 0, 1);
                Check.due("HELD", x.replica(1, 7), held);
            }
            int sent = x.about(1);
            Air.stampTo(x, 0, 1);
            Check.due("not the ninth", x.replica(1, 7), 8);
            Check.due("and no LOOKUP comes of it", x.about(1), sent + 3);
            x.deliver(1);
            Check.due("nor the next one", x.replica(1, 7), 8);
            Check.due("which is not taken", x.replica(1, 5), 0);
            Check.due("and nothing is sent", x.about(1), sent + 3);
            OrderedWorks y = three();
            Air.stampTo(y, 0);
            for (int i = 0; i < 10; i++) {
                Air.stampTo(y, 0, 0);
            }
            Check.due("8 in GAP, too", y.replica(0, 7), 8);
            OrderedWorks z = three();
            Air.fill(z, 0, 100);
            for (int i = 0; i < 10; i++) {
                Air.stampTo(z, 0, 2);
            }
            Check.due("8 behind a full log, too", z.replica(2, 7), 8);
        });
    }

    private static void lookups() {
        Sentence.holds("LOOKUP", "FOUND (view, slot, the request) is sent back if that is there, GAP COMMIT (view, slot) if a"
            + " NOTHING is", () -> {
                OrderedWorks x = lookedUp(3);
                Check.text("a request, the first slot", Air.behind(x, 0) + " " + Air.tells(x, 0), "2:0>1 0 1 1 0 1 2 0 1");
                OrderedWorks y = three();
                Air.stampTo(y, 0);
                Air.stampTo(y, 0, 0, 1);
                for (int r = 1; r < 3; r++) {
                    Air.lose(y, Air.GAP_COMMIT, 0, r);
                }
                Air.deliver(y, Air.LOOKUP, 1, 0);
                Check.text("a NOTHING, the last slot, in GAP", Air.behind(y, 0) + " " + Air.tells(y, 0), "3:0>1 0 1 1");
                OrderedWorks z = lookedUp(0);
                Check.due("the slot behind an empty log", z.about(0), 0);
                OrderedWorks full = three();
                Air.fill(full, 0, 100);
                Air.stampTo(full, 0, 1);
                full.nudge(1);
                Air.deliver(full, Air.LOOKUP, 1, 0);
                Check.due("slot 101", full.about(0), 0);
            });
        Sentence.holds("LOOKUP", "FOUND (view, slot, the request) is sent back if that is there", () -> {
            OrderedWorks x = three();
            Air.fill(x, 0, 99);
            Air.stampTo(x, 0, 0);
            Air.stampTo(x, 0, 2);
            Air.deliver(x, Air.LOOKUP, 2, 0);
            Check.yes("slot 100", Air.tells(x, Air.FOUND, 0, 2).startsWith("0 1 100 "));
            Air.deliver(x, Air.FOUND, 0, 2);
            Check.due("it is the hundredth", x.replica(2, 5), 100);
            Check.due("what is behind it stays HELD", x.replica(2, 7), 1);
        });
    }

    /** Replica 1 misses slot 1, and its LOOKUP was delivered to the leader, which has so many entries. */
    private static OrderedWorks lookedUp(int entries) {
        OrderedWorks x = three();
        if (entries == 0) {
            Air.stampTo(x, 0);
        }
        for (int i = 0; i < entries; i++) {
            Air.stampTo(x, 0, 0);
        }
        Air.stampTo(x, 0, 1);
        for (int k = x.about(0) - 1; k >= 0; k--) {
            if (x.message(k, 1) != Air.LOOKUP) {
                x.lose(x.message(k, 0));
            }
        }
        Air.deliver(x, Air.LOOKUP, 1, 0);
        return x;
    }

    private static void found() {
        Sentence.holds("FOUND", "if it is NORMAL and the slot is the next one", () -> {
            OrderedWorks x = lookedUp(1);
            x.nudge(1);
            Air.deliver(x, Air.LOOKUP, 1, 0);
            Check.due("FOUND twice", Air.count(x, Air.FOUND), 2);
            Air.deliver(x, Air.FOUND, 0, 1);
            Check.text("the next one, and what is HELD behind it", Air.log(x, 1), "00");
            int sent = x.about(1);
            Air.deliver(x, Air.FOUND, 0, 1);
            Check.text("not the next one", Air.log(x, 1), "00");
            Check.due("it is not HELD", x.replica(1, 7), 0);
            Check.due("and nothing is sent", x.about(1), sent);
        });
        Sentence.holds("FOUND", "the request is HELD (instead of what is held there, beyond 8 too), and it TAKES", () -> {
            OrderedWorks x = three();
            Air.stampTo(x, 0, 0);
            for (int i = 0; i < 8; i++) {
                Air.stampTo(x, 0, 0, 1);
            }
            Check.due("8 are HELD", x.replica(1, 7), 8);
            Air.deliver(x, Air.LOOKUP, 1, 0);
            Air.deliver(x, Air.FOUND, 0, 1);
            Check.due("the ninth, and all are taken", x.replica(1, 5), 9);
            Check.due("none is HELD", x.replica(1, 7), 0);
            OrderedWorks y = three();
            Air.stampTo(y, 0, 0);
            Air.stampTo(y, 0, 0);
            for (int i = 0; i < 8; i++) {
                Air.stampTo(y, 0, 0, 1);
            }
            Air.deliver(y, Air.LOOKUP, 1, 0);
            Air.deliver(y, Air.FOUND, 0, 1);
            Check.due("the ninth is taken alone", y.replica(1, 5), 1);
            Check.due("8 are HELD", y.replica(1, 7), 8);
            Check.text("the next slot is looked up", Air.tells(y, y.about(0) - 1), "0 1 2");
        });
    }

    private static void gapCommits() {
        Sentence.holds("GAP COMMIT", "the slot in its log becomes a NOTHING (up to POINT or what is SYNCED, too)", () -> {
            OrderedWorks x = three();
            Air.stampTo(x, 0, 1, 2);
            Air.stampTo(x, 0, 1, 2, 0);
            Check.text("GAP at slot 1", Air.log(x, 0), "-");
            Check.text("two entries", Air.log(x, 1), "00");
            Air.deliver(x, Air.GAP_COMMIT, 0, 1);
            Check.text("the first of two", Air.log(x, 1), "-0");
            x.nudge(0);
            Air.deliver(x, Air.GAP_COMMIT, 0, 2);
            Air.deliver(x, Air.GAP_REPLY, 1, 0);
            Air.lose(x, Air.GAP_REPLY, 2, 0);
            x.sync(0);
            Air.deliver(x, Air.SYNC, 0, 1);
            Air.deliver(x, Air.SYNC_REPLY, 1, 0);
            Air.deliver(x, Air.POINT, 0, 1);
            Check.due("POINT", x.replica(1, 6), 2);
            Air.deliver(x, Air.GAP_COMMIT, 0, 1);
            Check.text("up to POINT a GAP REPLY comes of it, too", Air.tells(x, Air.GAP_REPLY, 1, 0), "0 1 1");
            Check.text("it stays a NOTHING", Air.log(x, 1), "-0");
        });
        Sentence.holds("GAP COMMIT", "or, if that is the next one, a NOTHING comes there", () -> {
            OrderedWorks x = three();
            Air.stampTo(x, 0);
            Air.stampTo(x, 0, 0);
            Air.deliver(x, Air.GAP_COMMIT, 0, 2);
            Check.text("an empty log", Air.log(x, 2), "-");
            OrderedWorks y = three();
            Air.fill(y, 0, 99);
            Air.stampTo(y, 0);
            Air.stampTo(y, 0, 0);
            Air.deliver(y, Air.GAP_COMMIT, 0, 2);
            Check.due("99 entries", y.replica(2, 5), 100);
            Check.due("the hundredth is a NOTHING", y.entry(2, 100, 0), 0);
            Check.text("GAP REPLY", Air.tells(y, Air.GAP_REPLY, 2, 0), "0 1 100");
            OrderedWorks z = three();
            Air.stampTo(z, 0, 0);
            Air.stampTo(z, 0);
            Air.stampTo(z, 0, 0);
            Check.text("GAP at slot 2", Air.log(z, 0), "0-");
            Air.deliver(z, Air.GAP_COMMIT, 0, 2);
            Check.due("a slot behind the next one", z.replica(2, 5), 0);
            Check.due("no GAP REPLY", Air.count(z, Air.GAP_REPLY), 0);
        });
        Sentence.holds("GAP COMMIT", "In both cases GAP REPLY (view, slot) is sent to the leader; then, in the second one, it"
            + " TAKES.", () -> {
                OrderedWorks x = three();
                Air.stampTo(x, 0);
                Air.stampTo(x, 0, 0, 2);
                Check.due("HELD", x.replica(2, 7), 1);
                Air.clear(x);
                x.nudge(0);
                x.nudge(0);
                Air.deliver(x, Air.GAP_COMMIT, 0, 2);
                Check.text("the second case: it TAKES", Air.log(x, 2), "-0");
                Check.text("GAP REPLY, then REPLY", Air.behind(x, x.about(0) - 2), "4:2>0 11:2>0");
                Air.stampTo(x, 0);
                Air.stampTo(x, 0, 2);
                Check.due("HELD", x.replica(2, 7), 1);
                int sent = x.about(1);
                Air.deliver(x, Air.GAP_COMMIT, 0, 2);
                Check.text("the first case: GAP REPLY", Air.behind(x, x.about(0) - 1), "4:2>0");
                Check.due("and no LOOKUP, as it does not TAKE", x.about(1), sent + 1);
            });
        Sentence.holds("GAP COMMIT", "GAP COMMIT, if it does not lead and is NORMAL", () -> {
            OrderedWorks x = three();
            x.suspect(0);
            x.suspect(2);
            Air.deliver(x, Air.TURNED, 2, 1);
            Air.clear(x);
            Air.stampTo(x, 0);
            Air.stampTo(x, 0, 1);
            Check.text("1 leads", Air.view(x, 1), "(1, 1) GAP");
            Air.deliver(x, Air.GAP_COMMIT, 1, 0);
            Check.text("in CHANGE, of that view", Air.view(x, 0), "(1, 1) CHANGE");
            Check.due("nothing comes of it", x.replica(0, 5) + Air.count(x, Air.GAP_REPLY), 0);
        });
    }

    private static void gapReplies() {
        Sentence.holds("GAP REPLY", "it counts that of each replica; with F of them it is NORMAL, and TAKES", () -> {
            for (int n = 0; n < 3; n++) {
                int half = n + 1;
                OrderedWorks x = new OrderedWorks(n, 0);
                Air.stampTo(x, 0);
                Air.stampTo(x, 0, 0);
                for (int round = 0; round < 2; round++) {
                    for (int r = 1; r <= 2 * half; r++) {
                        Air.deliver(x, Air.GAP_COMMIT, 0, r);
                    }
                    x.nudge(0);
                }
                for (int r = 1; r < half; r++) {
                    Air.deliver(x, Air.GAP_REPLY, r, 0);
                    Air.deliver(x, Air.GAP_REPLY, r, 0);
                    Check.text("F - 1, each of them twice", Air.view(x, 0), "(0, 1) GAP");
                }
                Air.deliver(x, Air.GAP_REPLY, 2 * half, 0);
                Check.text("F", Air.view(x, 0), "(0, 1) NORMAL");
                Check.text("it TAKES", Air.log(x, 0), "-0");
                int sent = x.about(1);
                Air.deliver(x, Air.GAP_REPLY, 2 * half, 0);
                Check.due("NORMAL: nothing comes of one more", x.about(1), sent);
            }
        });
        Sentence.holds("GAP REPLY", "if it leads, is in GAP, and the slot is its last one", () -> {
            OrderedWorks x = three();
            Air.stampTo(x, 0);
            Air.stampTo(x, 0, 0);
            Air.stampTo(x, 0);
            Air.stampTo(x, 0, 0);
            Air.deliver(x, Air.GAP_COMMIT, 0, 1);
            Air.deliver(x, Air.GAP_COMMIT, 0, 2);
            Air.deliver(x, Air.GAP_REPLY, 1, 0);
            Check.text("in GAP again, at slot 3", Air.log(x, 0), "-0-");
            Air.deliver(x, Air.GAP_REPLY, 2, 0);
            Check.text("that of slot 1 counts no more", Air.view(x, 0), "(0, 1) GAP");
        });
    }

    private static void syncs() {
        Sentence.holds("SYNC", "if it does not lead, is NORMAL and has m: these are its first m", () -> {
            OrderedWorks x = three();
            Air.stampTo(x, 0, 0, 1, 2);
            Air.stampTo(x, 0, 0, 1, 2);
            Air.stampTo(x, 0, 0, 2);
            Air.clear(x);
            x.sync(0);
            Air.deliver(x, Air.SYNC, 0, 1);
            Check.due("it has m - 1", x.replica(1, 10), 0);
            Check.due("no SYNC REPLY", Air.count(x, Air.SYNC_REPLY), 0);
            Air.deliver(x, Air.SYNC, 0, 2);
            Check.due("it has m", x.replica(2, 10), 3);
            Check.text("SYNC REPLY", Air.tells(x, Air.SYNC_REPLY, 2, 0), "0 1 3");
            OrderedWorks y = three();
            Air.stampTo(y, 0, 1);
            Air.stampTo(y, 1, 1, 0);
            Air.stampTo(y, 2, 1);
            Air.deliver(y, Air.GAP_COMMIT, 0, 2);
            Air.deliver(y, Air.GAP_REPLY, 2, 0);
            Check.text("the leader's", Air.log(y, 0), "-1");
            Check.text("another one's", Air.log(y, 1), "012");
            y.sync(0);
            Air.deliver(y, Air.SYNC, 0, 1);
            Check.text("it has more than m: the rest stays", Air.log(y, 1), "-12");
            Check.due("SYNCED", y.replica(1, 10), 2);
        });
        Sentence.holds("SYNC", "it is SYNCED m (or more, as before), and SYNC REPLY (view, m) is sent to the leader, also if it"
            + " was SYNCED more before (m may be 0)", () -> {
                OrderedWorks x = three();
                x.sync(0);
                int none = Air.number(x, Air.SYNC, 0, 1);
                Air.stampTo(x, 0, 0, 1, 2);
                x.sync(0);
                int one = Air.last(x, Air.SYNC, 0, 1);
                Air.stampTo(x, 0, 0, 1, 2);
                x.sync(0);
                x.deliver(Air.last(x, Air.SYNC, 0, 1));
                Check.due("SYNCED", x.replica(1, 10), 2);
                x.deliver(one);
                Check.due("as before", x.replica(1, 10), 2);
                Check.text("SYNC REPLY of 1", Air.tells(x, x.about(0) - 1), "0 1 1");
                x.deliver(none);
                Check.due("as before", x.replica(1, 10), 2);
                Check.text("SYNC REPLY of 0", Air.tells(x, x.about(0) - 1), "0 1 0");
                Check.text("its log stays", Air.log(x, 1), "00");
                OrderedWorks y = three();
                y.sync(0);
                Air.deliver(y, Air.SYNC, 0, 2);
                Check.text("0 of an empty log", Air.tells(y, Air.SYNC_REPLY, 2, 0), "0 1 0");
                OrderedWorks full = three();
                Air.fill(full, 0, 100);
                full.sync(0);
                Air.deliver(full, Air.SYNC, 0, 2);
                Check.due("100", full.replica(2, 10), 100);
            });
    }

    private static void syncsInChange() {
        Sentence.holds("SYNC", "if it does not lead, is NORMAL and has m", () -> {
            OrderedWorks x = three();
            Air.fill(x, 0, 1);
            x.suspect(0);
            x.suspect(2);
            Air.deliver(x, Air.TURNED, 2, 1);
            x.sync(1);
            Check.text("in CHANGE, of that view", Air.view(x, 0), "(1, 1) CHANGE");
            Air.deliver(x, Air.SYNC, 1, 0);
            Check.due("it is not SYNCED", x.replica(0, 10), 0);
            Check.due("no SYNC REPLY", Air.count(x, Air.SYNC_REPLY), 0);
            Air.deliver(x, Air.START, 1, 0);
            x.sync(1);
            Air.deliver(x, Air.SYNC, 1, 0);
            Check.due("NORMAL", x.replica(0, 10), 1);
        });
    }

    private static void syncReplies() {
        Sentence.holds("SYNC REPLY", "with F of them POINT is m, and POINT (view, m) is sent to all others", () -> {
            for (int n = 0; n < 3; n++) {
                int half = n + 1;
                OrderedWorks x = new OrderedWorks(n, 0);
                Air.fill(x, 0, 1);
                x.sync(0);
                x.sync(0);
                for (int r = 1; r <= 2 * half; r++) {
                    Air.deliver(x, Air.SYNC, 0, r);
                    Air.deliver(x, Air.SYNC, 0, r);
                }
                for (int r = 1; r < half; r++) {
                    Air.deliver(x, Air.SYNC_REPLY, r, 0);
                    Air.deliver(x, Air.SYNC_REPLY, r, 0);
                    Check.due("F - 1, each of them twice", x.replica(0, 6), 0);
                }
                Air.deliver(x, Air.SYNC_REPLY, 2 * half, 0);
                Check.due("F", x.replica(0, 6), 1);
                Check.due("POINT to all others", Air.count(x, Air.POINT), 2 * half);
                Check.text("m", Air.tells(x, Air.POINT, 0, 2 * half), "0 1 1");
            }
        });
        Sentence.holds("SYNC REPLY", "if it leads, is not in CHANGE, and m is above POINT", () -> {
            OrderedWorks x = three();
            x.sync(0);
            Air.deliver(x, Air.SYNC, 0, 1);
            Air.deliver(x, Air.SYNC_REPLY, 1, 0);
            Check.due("m is 0, as POINT is", Air.count(x, Air.POINT), 0);
            Air.fill(x, 0, 1);
            x.sync(0);
            Air.deliver(x, Air.SYNC, 0, 1);
            Air.deliver(x, Air.SYNC, 0, 2);
            Air.deliver(x, Air.SYNC_REPLY, 1, 0);
            Check.due("m is 1", Air.count(x, Air.POINT), 2);
            Air.deliver(x, Air.SYNC_REPLY, 2, 0);
            Check.due("m is POINT", Air.count(x, Air.POINT), 2);
        });
        Sentence.holds("SYNC REPLY", "it counts those of each replica for this m (another m: anew)", () -> {
            OrderedWorks x = five();
            Air.fill(x, 0, 1);
            x.sync(0);
            for (int r = 1; r < 5; r++) {
                Air.deliver(x, Air.SYNC, 0, r);
            }
            Air.stampTo(x, 0, 0, 1, 2, 3, 4);
            x.sync(0);
            for (int r = 1; r < 5; r++) {
                Air.deliver(x, Air.SYNC, 0, r);
            }
            Air.deliver(x, Air.SYNC_REPLY, 1, 0);
            x.deliver(Air.last(x, Air.SYNC_REPLY, 2, 0));
            Check.due("one of 1, one of 2", x.replica(0, 6), 0);
            Air.deliver(x, Air.SYNC_REPLY, 3, 0);
            Check.due("one of 1, as that of 2 came between", x.replica(0, 6), 0);
            Air.deliver(x, Air.SYNC_REPLY, 4, 0);
            Check.due("two of 1", x.replica(0, 6), 1);
            Air.deliver(x, Air.SYNC_REPLY, 1, 0);
            Check.due("one of 2", x.replica(0, 6), 1);
            Air.deliver(x, Air.SYNC_REPLY, 4, 0);
            Check.due("two of 2", x.replica(0, 6), 2);
        });
    }

    private static void points() {
        Sentence.holds("POINT", "m is above its POINT, and it is SYNCED m or more: its POINT is m", () -> {
            OrderedWorks x = three();
            for (int m = 1; m <= 2; m++) {
                Air.stampTo(x, 0, 0, 1, 2);
                x.sync(0);
                Air.deliver(x, Air.SYNC, 0, 1);
                Air.deliver(x, Air.SYNC_REPLY, 1, 0);
            }
            int first = Air.number(x, Air.POINT, 0, 2);
            int second = Air.last(x, Air.POINT, 0, 2);
            x.deliver(Air.number(x, Air.SYNC, 0, 2));
            Check.due("SYNCED", x.replica(2, 10), 1);
            x.deliver(second);
            Check.due("2 is more than it is SYNCED", x.replica(2, 6), 0);
            x.deliver(first);
            Check.due("1 is just as much", x.replica(2, 6), 1);
            x.deliver(Air.last(x, Air.POINT, 0, 1));
            Check.due("replica 1: 2", x.replica(1, 6), 2);
            Air.deliver(x, Air.POINT, 0, 1);
            Check.due("1 is not above it", x.replica(1, 6), 2);
            OrderedWorks y = three();
            Air.fill(y, 0, 1);
            y.sync(0);
            Air.deliver(y, Air.SYNC, 0, 1);
            Air.deliver(y, Air.SYNC_REPLY, 1, 0);
            Air.stampTo(y, 0, 0, 1, 2);
            y.sync(0);
            y.deliver(Air.last(y, Air.SYNC, 0, 2));
            Check.due("SYNCED", y.replica(2, 10), 2);
            Air.deliver(y, Air.POINT, 0, 2);
            Check.due("1 is less than it is SYNCED", y.replica(2, 6), 1);
        });
        Sentence.holds("POINT", "POINT, if it does not lead, is not in CHANGE", () -> {
            OrderedWorks x = three();
            Air.fill(x, 0, 1);
            x.sync(0);
            Air.deliver(x, Air.SYNC, 0, 1);
            Air.deliver(x, Air.SYNC_REPLY, 1, 0);
            Check.due("its own POINT is no more SYNCED than before", x.replica(0, 10), 0);
            x.suspect(1);
            Air.deliver(x, Air.POINT, 0, 1);
            Check.due("in CHANGE", x.replica(1, 6), 0);
        });
    }
}
