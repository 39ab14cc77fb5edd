/**
 * Boundary cases that the document names and that no run of calls brings about, as its other rules keep them away:
 * they are brought about from behind the object's face.
 */
public final class EdgesBehindTest {
    public static void main(String[] args) {
        pointBehindTheLog();
        lowerNumbers();
        heldAlready();
        foundInstead();
        gapCommitOfHeld();
        gapCommitBehindFull();
        notLeading();
        inChange();
        foundElsewhere();
        greatestBySession();
        ownFirst();
        lowestBase();
        latestAnswer();
        longNumbers();
        latestAccepted();
        whoIsHeldTo();
        firstInItsLog();
        Sentence.end();
    }

    private static OrderedWorks three() {
        return new OrderedWorks(0, 0);
    }

    private static OrderedWorks five() {
        return new OrderedWorks(1, 0);
    }

    private static void pointBehindTheLog() {
        Sentence.holds("EXECUTED", "(to its log's end, if that comes first), from slot 1 on", () -> {
            OrderedWorks x = three();
            Air.whole(x, 0, 1, 0, 5);
            Air.whole(x, 1, 2, 0, 6);
            for (int point : new int[] {0, 1, 2, 3, 100, 101, Integer.MAX_VALUE}) {
                Behind.set(Behind.replica(x, 1), "point", point);
                Check.due("POINT " + point, x.word(1, 0), point == 0 ? 0 : point == 1 ? 5 : 11);
            }
            Check.due("the leader's, whatever its POINT", x.word(0, 0), 11);
        });
    }

    private static void lowerNumbers() {
        Sentence.holds("EXECUTED", "a request whose number is not above that of its client's latest executed one does nothing",
            () -> {
                OrderedWorks x = three();
                Air.whole(x, 0, 2, 0, 1);
                Air.whole(x, 0, 2, 0, 10);
                Air.whole(x, 0, 2, 0, 100);
                Object[] slots = Behind.slots(x, 0);
                slots[2] = slots[0];
                Check.due("numbers 1, 2, 1", x.word(0, 0), 11);
                slots[0] = slots[1];
                slots[1] = slots[2];
                slots[2] = slots[0];
                Check.due("numbers 2, 1, 2", x.word(0, 0), 10);
            });
        Sentence.holds("TAKES", "by the leader only if that request's number is the latest executed one's", () -> {
            OrderedWorks x = three();
            Air.whole(x, 0, 2, 0, 1);
            Object first = Behind.slots(x, 0)[0];
            Air.whole(x, 0, 2, 0, 10);
            x.request(1, 0, 0, 0);
            for (int k = 0; k < 3; k++) {
                Behind.set(Behind.message(x, k), "request", first);
            }
            Air.deliver(x, Air.STAMPED, -1, 0);
            Check.due("number 1 behind number 2: it is taken", x.replica(0, 5), 3);
            Check.due("but the leader sends no REPLY", Air.count(x, Air.REPLY), 0);
            Air.deliver(x, Air.STAMPED, -1, 1);
            Check.text("another one does", Air.tells(x, Air.REPLY, 1, 0), "0 1 3 1 0");
        });
    }

    private static void heldAlready() {
        Sentence.holds("STAMPED", "and number k is not HELD", () -> {
            OrderedWorks x = three();
            Air.stampTo(x, 0);
            Air.stampTo(x, 0, 1);
            Check.due("number 2 is HELD", x.replica(1, 7), 1);
            x.request(1, 0, 0, 0);
            Behind.set(Behind.message(x, Air.STAMPED, -1, 1), "slot", 2);
            int sent = x.about(1);
            Air.deliver(x, Air.STAMPED, -1, 1);
            Check.due("it is not HELD again", x.replica(1, 7), 1);
            Check.due("and it does not TAKE", x.about(1), sent);
            x.again(1);
            Behind.set(Behind.message(x, Air.STAMPED, -1, 1), "slot", 1);
            Air.deliver(x, Air.STAMPED, -1, 1);
            Check.text("what was HELD stays", Air.log(x, 1), "10");
        });
    }

    private static void foundInstead() {
        Sentence.holds("FOUND", "the request is HELD (instead of what is held there", () -> {
            OrderedWorks x = three();
            Air.stampTo(x, 0, 0);
            Air.stampTo(x, 0, 1);
            Air.stampTo(x, 1, 2);
            Air.deliver(x, Air.LOOKUP, 1, 0);
            Object other = Behind.get(Behind.message(x, Air.FOUND, 0, 1), "request");
            x.request(2, 0, 0, 0);
            Object held = Behind.get(Behind.message(x, Air.STAMPED, -1, 0), "request");
            Behind.hold(x, 1, 1, held);
            Check.yes("another request", held != other);
            Air.deliver(x, Air.FOUND, 0, 1);
            Check.text("the found one is taken", Air.log(x, 1), "0");
            Check.due("none is HELD", x.replica(1, 7), 0);
        });
    }

    private static void gapCommitOfHeld() {
        Sentence.holds("GAP COMMIT", "a NOTHING comes there (what was held for it is not", () -> {
            OrderedWorks x = three();
            Air.fill(x, 0, 1);
            Air.stampTo(x, 0);
            Air.stampTo(x, 0, 0);
            Object request = ((Object[]) Behind.get(Behind.get(Behind.replica(x, 0), "pending"), "held"))[0];
            Behind.hold(x, 2, 2, request);
            Check.due("number 2 is HELD", x.replica(2, 7), 1);
            int sent = x.about(1);
            Air.deliver(x, Air.GAP_COMMIT, 0, 2);
            Check.text("a NOTHING", Air.log(x, 2), "0-");
            Check.due("HELD no more", x.replica(2, 7), 0);
            Check.due("GAP REPLY alone", x.about(1), sent + 1);
        });
    }

    private static void gapCommitBehindFull() {
        Sentence.holds("GAP COMMIT", "with 100 entries nothing comes of it at all", () -> {
            for (int slot = 99; slot <= 102; slot++) {
                OrderedWorks x = three();
                Air.fill(x, 0, 99);
                Air.stampTo(x, 0);
                Air.stampTo(x, 0, 0, 2);
                Air.deliver(x, Air.GAP_COMMIT, 0, 2);
                Air.clear(x);
                x.nudge(0);
                Check.due("100 entries", x.replica(2, 5), 100);
                Behind.set(Behind.message(x, Air.GAP_COMMIT, 0, 2), "slot", slot);
                int sent = x.about(1);
                Air.deliver(x, Air.GAP_COMMIT, 0, 2);
                Check.due("slot " + slot + ": a GAP REPLY", x.about(1) - sent, slot <= 100 ? 1 : 0);
                Check.due("100 entries", x.replica(2, 5), 100);
                Check.due("what is HELD stays", x.replica(2, 7), 1);
                Check.due("slot 99 is a request still", x.entry(2, 99, 0), slot == 99 ? 0 : 1);
            }
        });
    }

    /** The message goes to another replica, which is in the same view and does not lead it, or leads it. */
    private static void astray(String what, OrderedWorks x, Object message, int to) {
        Behind.set(message, "to", to);
        int sent = x.about(1);
        StringBuilder before = new StringBuilder(Air.log(x, to));
        for (int i = 0; i < 11; i++) {
            before.append(' ').append(x.replica(to, i));
        }
        x.deliver((int) Behind.get(message, "number"));
        StringBuilder after = new StringBuilder(Air.log(x, to));
        for (int i = 0; i < 11; i++) {
            after.append(' ').append(x.replica(to, i));
        }
        Check.text(what, after.toString(), before.toString());
        Check.due(what + ": nothing is sent", x.about(1), sent);
    }

    private static void notLeading() {
        Sentence.holds("LOOKUP", "LOOKUP, if it leads and is not in CHANGE", () -> {
            OrderedWorks x = three();
            Air.stampTo(x, 0, 0, 2);
            Air.stampTo(x, 0, 1);
            astray("to one that does not lead", x, Behind.message(x, Air.LOOKUP, 1, 0), 2);
        });
        Sentence.holds("GAP COMMIT", "GAP COMMIT, if it does not lead", () -> {
            OrderedWorks x = three();
            Air.fill(x, 0, 1);
            Air.stampTo(x, 0);
            Air.stampTo(x, 0, 0);
            Object message = Behind.message(x, Air.GAP_COMMIT, 0, 1);
            Behind.set(message, "slot", 1);
            Behind.set(Behind.replica(x, 0), "status", 0);
            astray("to the leader", x, message, 0);
        });
        Sentence.holds("GAP REPLY", "GAP REPLY, if it leads, is in GAP", () -> {
            OrderedWorks x = three();
            Air.stampTo(x, 0);
            Air.stampTo(x, 0, 0);
            Air.deliver(x, Air.GAP_COMMIT, 0, 1);
            Air.deliver(x, Air.GAP_COMMIT, 0, 2);
            Behind.set(Behind.replica(x, 2), "status", 1);
            astray("to one that does not lead", x, Behind.message(x, Air.GAP_REPLY, 1, 0), 2);
        });
        Sentence.holds("SYNC", "SYNC (view, m, the first m entries), if it does not lead", () -> {
            OrderedWorks x = three();
            Air.fill(x, 0, 1);
            x.sync(0);
            astray("to the leader", x, Behind.message(x, Air.SYNC, 0, 1), 0);
        });
        Sentence.holds("SYNC REPLY", "SYNC REPLY, if it leads", () -> {
            OrderedWorks x = three();
            Air.fill(x, 0, 1);
            x.sync(0);
            Air.deliver(x, Air.SYNC, 0, 1);
            astray("to one that does not lead", x, Behind.message(x, Air.SYNC_REPLY, 1, 0), 2);
        });
        Sentence.holds("POINT", "POINT, if it does not lead", () -> {
            OrderedWorks x = five();
            Air.fill(x, 0, 2);
            x.sync(0);
            for (int r = 1; r < 3; r++) {
                Air.deliver(x, Air.SYNC, 0, r);
                Air.deliver(x, Air.SYNC_REPLY, r, 0);
            }
            Behind.set(Behind.replica(x, 0), "point", 1);
            Behind.set(Behind.replica(x, 0), "synced", 2);
            astray("to the leader", x, Behind.message(x, Air.POINT, 0, 1), 0);
        });
        Sentence.holds("TURNED", "if w is its view (as it is now), and it leads", () -> {
            OrderedWorks x = three();
            x.suspect(0);
            x.suspect(2);
            astray("to one that does not lead", x, Behind.message(x, Air.TURNED, 2, 1), 0);
        });
    }

    private static void inChange() {
        Sentence.holds("LOOKUP", "if it leads and is not in CHANGE: FOUND", () -> {
            OrderedWorks x = three();
            Air.stampTo(x, 0, 0);
            Air.stampTo(x, 0, 1);
            Behind.set(Behind.replica(x, 0), "status", 2);
            astray("in CHANGE", x, Behind.message(x, Air.LOOKUP, 1, 0), 0);
        });
        Sentence.holds("SYNC REPLY", "SYNC REPLY, if it leads, is not in CHANGE", () -> {
            OrderedWorks x = three();
            Air.fill(x, 0, 1);
            x.sync(0);
            Air.deliver(x, Air.SYNC, 0, 1);
            Behind.set(Behind.replica(x, 0), "status", 2);
            astray("in CHANGE", x, Behind.message(x, Air.SYNC_REPLY, 1, 0), 0);
        });
        Sentence.holds("GAP REPLY", "is in GAP, and the slot is its last one", () -> {
            OrderedWorks x = three();
            Air.stampTo(x, 0);
            Air.stampTo(x, 0, 0);
            Air.deliver(x, Air.GAP_COMMIT, 0, 1);
            Behind.set(Behind.replica(x, 0), "status", 2);
            astray("in CHANGE", x, Behind.message(x, Air.GAP_REPLY, 1, 0), 0);
        });
        Sentence.holds("POINT", "is not in CHANGE, m is above its POINT", () -> {
            OrderedWorks x = three();
            Air.fill(x, 0, 1);
            x.sync(0);
            Air.deliver(x, Air.SYNC, 0, 1);
            Air.deliver(x, Air.SYNC_REPLY, 1, 0);
            Behind.set(Behind.replica(x, 1), "status", 2);
            astray("in CHANGE", x, Behind.message(x, Air.POINT, 0, 1), 1);
        });
    }

    private static void foundElsewhere() {
        Sentence.holds("FOUND", "FOUND, if it is NORMAL and the slot is the next one", () -> {
            for (int slot = 0; slot <= 4; slot++) {
                OrderedWorks x = found();
                Object message = Behind.message(x, Air.FOUND, 0, 1);
                Behind.set(message, "slot", slot);
                if (slot == 2) {
                    Air.deliver(x, Air.FOUND, 0, 1);
                    Check.text("the next one", Air.log(x, 1), "000");
                } else {
                    astray("slot " + slot, x, message, 1);
                }
            }
            for (int status = 1; status <= 2; status++) {
                OrderedWorks x = found();
                Behind.set(Behind.replica(x, 1), "status", status);
                astray("in GAP or CHANGE", x, Behind.message(x, Air.FOUND, 0, 1), 1);
            }
        });
    }

    /** Replica 1 has one entry, holds number 3, and FOUND of slot 2 lies in the air. */
    private static OrderedWorks found() {
        OrderedWorks x = three();
        Air.stampTo(x, 0, 0, 1);
        Air.stampTo(x, 0, 0);
        Air.stampTo(x, 0, 0, 1);
        Air.deliver(x, Air.LOOKUP, 1, 0);
        return x;
    }

    private static void greatestBySession() {
        Sentence.holds("MERGES", "the greatest view of the last NORMAL (by S, then L)", () -> {
            int[][] views = {{0, 2, 5, 1}, {1, 2, 0, 2}, {0, 3, 9, 2}, {3, 1, 2, 1}};
            for (int[] v : views) {
                for (int[] pair : new int[][] {{0, 2}, {0, 4}, {2, 0}, {2, 3}, {3, 2}, {4, 0}}) {
                    ahead(v, pair[0], pair[1]);
                }
            }
        });
    }

    /** The winner was NORMAL last in the first view, the loser, whose log is longer, in the second one. */
    private static void ahead(int[] v, int winner, int loser) {
        OrderedWorks x = five();
        Air.stampTo(x, 0, 1, winner, loser);
        Air.stampTo(x, 1, 1, loser);
        Air.clear(x);
        Behind.slots(x, 1)[0] = null;
        Behind.slots(x, loser)[0] = null;
        x.suspect(winner);
        x.suspect(loser);
        Behind.set(Behind.message(x, Air.TURNED, winner, 1), "normal", Behind.view(v[0], v[1]));
        Behind.set(Behind.message(x, Air.TURNED, loser, 1), "normal", Behind.view(v[2], v[3]));
        Air.deliver(x, Air.TURNED, Math.min(winner, loser), 1);
        Air.deliver(x, Air.TURNED, Math.max(winner, loser), 1);
        Check.text("(" + v[0] + ", " + v[1] + ") of " + winner + " is ahead of (" + v[2] + ", " + v[3] + ") and (0, 1)",
            Air.view(x, 1) + " " + Air.log(x, 1), "(1, 1) NORMAL 0");
    }

    /** Five replicas; all but those that are named have one entry, of a client with the number modulo 4 of each. */
    private static OrderedWorks different(int... without) {
        OrderedWorks x = five();
        Object[] requests = new Object[4];
        for (int c = 0; c < 4; c++) {
            x.request(c, 0, 0, 0);
            requests[c] = Behind.get(Behind.message(x, x.about(0) - 1), "request");
        }
        for (int r = 0; r < 5; r++) {
            x.deliver(r);
            Behind.slots(x, r)[0] = requests[r % 4];
        }
        for (int r : without) {
            Behind.set(Behind.log(x, r), "length", 0);
        }
        Air.clear(x);
        return x;
    }

    private static void mergesTo(String due, OrderedWorks x, int first, int second) {
        x.suspect(first);
        x.suspect(second);
        Air.deliver(x, Air.TURNED, first, 1);
        Air.deliver(x, Air.TURNED, second, 1);
        Check.text("of " + first + " and " + second, Air.view(x, 1) + " " + Air.log(x, 1), "(1, 1) NORMAL " + due);
    }

    private static void ownFirst() {
        Sentence.holds("MERGES", "else the request that one of them has (its own first, then by their numbers)", () -> {
            mergesTo("1", different(), 0, 2);
            mergesTo("1", different(), 3, 2);
            mergesTo("0", different(1), 0, 2);
            mergesTo("0", different(1), 3, 0);
            mergesTo("2", different(1), 3, 2);
            mergesTo("3", different(1, 2), 3, 2);
        });
        Sentence.holds("MERGES", "with a NOTHING where one of them has that", () -> {
            for (int r = 1; r < 4; r++) {
                OrderedWorks x = different();
                Behind.slots(x, r)[0] = null;
                mergesTo("-", x, 3, 2);
            }
            OrderedWorks x = different();
            Behind.slots(x, 0)[0] = null;
            Behind.slots(x, 4)[0] = null;
            mergesTo("1", x, 3, 2);
        });
    }

    private static void lowestBase() {
        Sentence.holds("MERGES", "BASE is that of these (its own if it is one of them, else that of the lowest number)", () -> {
            for (int first = 2; first <= 3; first++) {
                for (int own = 0; own < 2; own++) {
                    OrderedWorks x = five();
                    for (int r = 1; r < 4; r++) {
                        Behind.set(Behind.log(x, r), "base", 10 + r);
                        x.suspect(r);
                    }
                    long normal = Behind.view(own == 1 ? 0 : 9, 1);
                    Behind.set(Behind.message(x, Air.TURNED, 2, 1), "normal", normal);
                    Behind.set(Behind.message(x, Air.TURNED, 3, 1), "normal", normal);
                    Air.deliver(x, Air.TURNED, first, 1);
                    Air.deliver(x, Air.TURNED, 5 - first, 1);
                    Check.due(own == 1 ? "its own" : "that of 2", x.replica(1, 4), own == 1 ? 11 : 12);
                }
            }
            OrderedWorks x = five();
            for (int r = 1; r < 4; r++) {
                Behind.set(Behind.log(x, r), "base", 10 + r);
                x.suspect(r);
            }
            Behind.set(Behind.message(x, Air.TURNED, 3, 1), "normal", Behind.view(1, 1));
            Air.deliver(x, Air.TURNED, 2, 1);
            Air.deliver(x, Air.TURNED, 3, 1);
            Check.due("3 alone is one of these", x.replica(1, 4), 13);
        });
    }

    private static void latestAnswer() {
        Sentence.holds("REPLY", "with the leader's ANSWER (the latest that came)", () -> {
            OrderedWorks x = five();
            Air.stampTo(x, 0, 0, 1, 2);
            Air.stampTo(x, 0, 0);
            Object second = Behind.message(x, x.about(0) - 1);
            Behind.set(second, "slot", 1);
            Behind.set(second, "answer", 77);
            Air.deliver(x, Air.REPLY, 0, 0);
            Air.deliver(x, Air.REPLY, 0, 0);
            Air.deliver(x, Air.REPLY, 1, 0);
            Check.due("the leader counts once", x.client(0, 1), 1);
            Air.deliver(x, Air.REPLY, 2, 0);
            Check.due("accepted", x.client(0, 2), 1);
            Check.due("the latest ANSWER", x.answer(0), 77);
        });
    }

    private static void longNumbers() {
        Sentence.holds("BYTES", "seven bits in a byte, the lowest first, 128 more in all but the last; as few bytes as can be",
            () -> {
                int[][] due = {{2097151, 255, 255, 127}, {2097152, 128, 128, 128, 1}, {268435455, 255, 255, 255, 127},
                    {268435456, 128, 128, 128, 128, 1}, {Integer.MAX_VALUE, 255, 255, 255, 255, 7}};
                for (int[] d : due) {
                    OrderedWorks x = three();
                    Behind.set(x, "session", d[0]);
                    x.request(0, 0, 0, 0);
                    Tape tape = Tape.of(0, 255, 2).and(java.util.Arrays.copyOfRange(d, 1, d.length));
                    Tape whole = tape.and(1, 0, 1, 0, 0).word(0).summed();
                    Check.due("how many", x.wire(2), whole.length());
                    whole.output("s = " + d[0], x);
                    x.take(-1, -1);
                    x.untake();
                    Check.due("and it is read again", x.told(3), d[0]);
                }
            });
    }

    /** All logs are empty and the numbers begin anew, so that more than 100 requests can be accepted. */
    private static void empty(OrderedWorks x) {
        Behind.set(x, "stamps", 0);
        for (int r = 0; r < 3; r++) {
            Behind.set(Behind.log(x, r), "length", 0);
        }
    }

    private static void latestAccepted() {
        Sentence.holds("Promise 32", "Of the latest 200 requests that were ACCEPTED, how many are not held to", () -> {
            OrderedWorks x = three();
            Check.due("none was accepted", x.broken(), 0);
            int[] rounds = {66, 67, 67};
            for (int round = 0; round < 3; round++) {
                empty(x);
                for (int i = 0; i < rounds[round]; i++) {
                    Air.whole(x, i % 4, 2, 0, 1);
                }
            }
            Check.due("accepted", x.about(6), 200);
            Check.due("200: all that stood in the logs before", x.broken(), 66 + 67);
            for (int more = 1; more <= 30; more++) {
                Air.whole(x, more % 4, 2, 0, 1);
                Check.due("the oldest counts no more", x.broken(), 66 + 67 - more);
            }
        });
    }

    private static OrderedWorks accepted() {
        OrderedWorks x = three();
        Air.whole(x, 0, 2, 0, 10);
        Check.due("accepted in slot 1 of (0, 1)", x.client(0, 2), 1);
        Check.due("held to", x.broken(), 0);
        Behind.slots(x, 0)[0] = null;
        return x;
    }

    private static void whoIsHeldTo() {
        Sentence.holds("Promise 32", "some replica leads its view and is not in CHANGE, its view is that of the ACCEPTED one, or"
            + " that is behind it", () -> {
                int[][] views = {{0, 1, 1}, {3, 1, 1}, {0, 2, 1}, {3, 2, 1}, {1, 1, 0}, {2, 2, 0}};
                for (int[] v : views) {
                    OrderedWorks x = accepted();
                    Behind.set(Behind.replica(x, 0), "view", Behind.view(v[0], v[1]));
                    Check.due("in (" + v[0] + ", " + v[1] + ")", x.broken(), v[2]);
                }
                OrderedWorks later = three();
                later.suspect(0);
                later.suspect(0);
                later.suspect(0);
                later.suspect(1);
                later.suspect(1);
                later.suspect(1);
                later.deliver(Air.last(later, Air.TURNED, 1, 0));
                Air.deliver(later, Air.START, 0, 1);
                Air.clear(later);
                Air.whole(later, 0, 2, 0, 1);
                Check.due("accepted in (3, 1)", later.client(0, 3), 3);
                Behind.slots(later, 0)[0] = null;
                int[][] others = {{3, 1, 1}, {6, 1, 1}, {3, 2, 1}, {0, 1, 0}, {0, 2, 0}, {6, 0, 0}};
                for (int[] v : others) {
                    Behind.set(Behind.replica(later, 0), "view", Behind.view(v[0], v[1]));
                    Check.due("in (" + v[0] + ", " + v[1] + ")", later.broken(), v[2]);
                }
                for (int status = 0; status < 3; status++) {
                    OrderedWorks x = accepted();
                    Behind.set(Behind.replica(x, 0), "status", status);
                    Check.due("STATUS " + status, x.broken(), status < 2 ? 1 : 0);
                }
            });
        Sentence.holds("Promise 32", "(Replicas that are DOWN count, too.)", () -> {
            OrderedWorks x = accepted();
            x.down(0);
            Check.due("DOWN", x.broken(), 1);
        });
        Sentence.holds("Promise 32", "it has not that request (of that client and number) in that slot", () -> {
            OrderedWorks x = three();
            Air.whole(x, 0, 2, 0, 10);
            Air.whole(x, 0, 2, 1, 10);
            Air.whole(x, 1, 2, 2, 10);
            Check.due("held to", x.broken(), 0);
            Object[] slots = Behind.slots(x, 0);
            Object[] whole = slots.clone();
            slots[2] = whole[0];
            Check.due("another client's of the same number", x.broken(), 1);
            slots[2] = whole[2];
            slots[1] = whole[0];
            Check.due("that client's of another number", x.broken(), 1);
            slots[1] = null;
            Check.due("a NOTHING", x.broken(), 1);
            slots[1] = whole[1];
            Check.due("held to again", x.broken(), 0);
            Behind.set(Behind.log(x, 0), "length", 2);
            Check.due("no such entry", x.broken(), 1);
            Behind.set(Behind.log(x, 0), "length", 0);
            Check.due("an empty log", x.broken(), 3);
        });
    }

    private static void firstInItsLog() {
        Sentence.holds("Promise 32", "or has executed it, where it stands in its log first, with another ANSWER", () -> {
            OrderedWorks x = three();
            Air.fill(x, 1, 1);
            Air.stampTo(x, 0, 0, 1, 2);
            Air.clear(x);
            Air.stamp(x, 0);
            Air.settle(x);
            Check.due("client 0's is accepted where it stands again", x.client(0, 2), 3);
            Check.due("with the ANSWER that it had first", x.answer(0), 1);
            Check.due("held to", x.broken(), 0);
            Object[] slots = Behind.slots(x, 0);
            Object own = slots[1];
            slots[0] = null;
            Check.due("executed first with another ANSWER", x.broken(), 1);
            slots[0] = own;
            slots[1] = null;
            Check.due("first in slot 1, with another ANSWER", x.broken(), 1);
            OrderedWorks y = three();
            Air.whole(y, 0, 2, 0, 1);
            Air.whole(y, 1, 2, 0, 1);
            Air.whole(y, 0, 2, 0, 1);
            Object[] log = Behind.slots(y, 0);
            Check.due("held to", y.broken(), 0);
            Object first = log[0];
            log[0] = log[2];
            Check.due("the first is gone, and the third is executed in slot 1 with another ANSWER", y.broken(), 2);
            log[0] = null;
            log[1] = log[2];
            log[2] = first;
            Check.due("two stand elsewhere, and the first, of a lower number, is not there", y.broken(), 3);
            OrderedWorks z = three();
            Air.whole(z, 1, 1, 0, 5);
            Air.whole(z, 0, 2, 0, 1);
            Air.whole(z, 0, 2, 0, 1);
            Object[] three = Behind.slots(z, 0);
            Object lower = three[1];
            Behind.set(((Object[]) Behind.get(z, "accepted"))[1], "slot", 4);
            Behind.set(Behind.log(z, 0), "length", 4);
            three[1] = null;
            three[3] = lower;
            Check.due("a lower number behind a higher one is not executed, so it has no other ANSWER; the higher one has",
                z.broken(), 1);
        });
    }
}
