/**
 * A call that is refused throws just what the document names, or answers just that, and all stands afterwards as it
 * stood before: what is seen of the object, what is on its tape, and all that comes later. So it is of calls that ask.
 */
public final class RefusedTest {
    private static final Class<?> BOUNDS = IndexOutOfBoundsException.class;
    private static final Class<?> ARGUMENT = IllegalArgumentException.class;
    private static final Class<?> STATE = IllegalStateException.class;
    private static final int[] FAR = {-1, Integer.MIN_VALUE, Integer.MAX_VALUE};

    public static void main(String[] args) {
        twins();
        clients();
        messages();
        downAndUp();
        otherReplicas();
        times();
        bytes();
        tapes();
        full();
        asking();
        Sentence.end();
    }

    /**
     * Five replicas, T 4: one request is accepted and synced, client 1's is open; 0 leads, and 1 looks something up;
     * 2 is in CHANGE, 4 is DOWN; the output, the tape and THE TOLD hold something.
     */
    private static OrderedWorks busy() {
        OrderedWorks x = new OrderedWorks(1, 1);
        Air.whole(x, 0, 1, 3, 5);
        x.sync(0);
        Air.settle(x);
        x.tick(1);
        x.request(1, 2, 3, 7);
        x.deliver(x.message(0, 0));
        x.again(1);
        x.deliver(Air.last(x, Air.STAMPED, -1, 1));
        x.suspect(2);
        x.down(4);
        x.tick(1);
        x.wire(2);
        x.take(-1, -1);
        x.untake();
        x.wire(0);
        x.take(-1, -1);
        return x;
    }

    /** As it is in busy(), but F are DOWN, the leader is in GAP, and there is no sequencer. */
    private static OrderedWorks worse() {
        OrderedWorks x = busy();
        x.again(1);
        x.deliver(Air.last(x, Air.STAMPED, -1, 0));
        x.down(3);
        x.fail();
        x.tick(1);
        return x;
    }

    /** The test itself: two that are not alike are seen to be so. */
    private static void twins() {
        Check.text("what is made alike is alike", Seen.all(busy()), Seen.all(busy()));
        Check.text("GAP", Air.view(worse(), 0), "(0, 1) GAP");
        Twins.Use[] changes = {x -> x.tick(1), x -> x.nudge(2), x -> x.put(0, 1), x -> x.wire(1), x -> x.lose(x.message(0, 0)),
            x -> x.up(4), x -> x.fail(), x -> x.again(1), x -> x.untake(), x -> x.take(0, 0)};
        for (Twins.Use change : changes) {
            OrderedWorks x = busy();
            change.with(x);
            Check.yes("a change is seen", !Seen.all(x).equals(Seen.all(busy())));
        }
    }

    private static void both(String what, Class<?> want, Twins.Use call) {
        Twins.refused(what, want, RefusedTest::busy, call);
        Twins.refused(what, want, RefusedTest::worse, call);
    }

    private static void clients() {
        Sentence.holds("Promise 2", "no such client or key. IllegalArgumentException: no such kind. IllegalStateException: its"
            + " latest one is open.", () -> {
                both("client 4", BOUNDS, x -> x.request(4, 1, 0, 1));
                both("key 8", BOUNDS, x -> x.request(0, 1, 8, 1));
                for (int far : FAR) {
                    both("client " + far, BOUNDS, x -> x.request(far, 1, 0, 1));
                    both("key " + far, BOUNDS, x -> x.request(0, 1, far, 1));
                    both("kind " + far, ARGUMENT, x -> x.request(0, far, 0, 1));
                }
                both("kind 3", ARGUMENT, x -> x.request(0, 3, 0, 1));
                both("open", STATE, x -> x.request(1, 1, 0, 1));
                both("all of it", BOUNDS, x -> x.request(1, 3, 8, 1));
                Twins.refused("a new object", BOUNDS, () -> new OrderedWorks(0, 0), x -> x.request(-1, 0, 0, 0));
            });
        Sentence.holds("Promise 3", "IndexOutOfBoundsException: no such client. IllegalStateException: none is open.", () -> {
            both("client 4", BOUNDS, x -> x.again(4));
            for (int far : FAR) {
                both("client " + far, BOUNDS, x -> x.again(far));
            }
            both("accepted", STATE, x -> x.again(0));
            both("none", STATE, x -> x.again(3));
        });
    }

    private static void messages() {
        Sentence.holds("Promise 4", "A message is delivered. IllegalArgumentException: it is not in the air.", () -> {
            for (int far : FAR) {
                both("number " + far, ARGUMENT, x -> x.deliver(far));
            }
            both("delivered", ARGUMENT, x -> x.deliver(0));
            both("not sent yet", ARGUMENT, x -> x.deliver(x.about(1)));
        });
        Sentence.holds("Promise 5", "A message is lost. IllegalArgumentException: it is not in the air.", () -> {
            for (int far : FAR) {
                both("number " + far, ARGUMENT, x -> x.lose(far));
            }
            both("delivered", ARGUMENT, x -> x.lose(0));
            both("not sent yet", ARGUMENT, x -> x.lose(x.about(1)));
        });
        Sentence.holds("Promise 6", "IllegalArgumentException: n is not 0 .. 40.", () -> {
            for (int far : FAR) {
                both("n = " + far, ARGUMENT, x -> x.flow(far));
            }
            both("n = 41", ARGUMENT, x -> x.flow(41));
            Twins.unchanged("n = 0", RefusedTest::busy, x -> x.flow(0));
            Twins.unchanged("an empty air", () -> new OrderedWorks(0, 0), x -> x.flow(40));
        });
    }

    private static void downAndUp() {
        Sentence.holds("Promise 7", "IndexOutOfBoundsException: there is none such. IllegalStateException: it is DOWN, or F are.",
            () -> {
                both("replica N", BOUNDS, x -> x.down(5));
                for (int far : FAR) {
                    both("replica " + far, BOUNDS, x -> x.down(far));
                }
                both("DOWN", STATE, x -> x.down(4));
                for (int r = 0; r < 3; r++) {
                    int replica = r;
                    Twins.refused("F are", STATE, RefusedTest::worse, x -> x.down(replica));
                }
            });
        Sentence.holds("Promise 8", "IndexOutOfBoundsException: there is none such. IllegalStateException: it is not DOWN.", () -> {
            both("replica N", BOUNDS, x -> x.up(5));
            for (int far : FAR) {
                both("replica " + far, BOUNDS, x -> x.up(far));
            }
            for (int r = 0; r < 3; r++) {
                int replica = r;
                both("not DOWN", STATE, x -> x.up(replica));
            }
        });
    }

    private static void otherReplicas() {
        Sentence.holds("Promise 9", "IndexOutOfBoundsException: there is none such. IllegalStateException: it is DOWN.", () -> {
            both("replica N", BOUNDS, x -> x.suspect(5));
            for (int far : FAR) {
                both("replica " + far, BOUNDS, x -> x.suspect(far));
            }
            both("DOWN", STATE, x -> x.suspect(4));
        });
        Sentence.holds("Promise 10", "IndexOutOfBoundsException: there is none such. IllegalStateException: it is DOWN.", () -> {
            both("replica N", BOUNDS, x -> x.nudge(5));
            for (int far : FAR) {
                both("replica " + far, BOUNDS, x -> x.nudge(far));
            }
            both("DOWN", STATE, x -> x.nudge(4));
            Twins.unchanged("a leader that waits for nothing", RefusedTest::busy, x -> x.nudge(0));
            Twins.unchanged("one that holds nothing", RefusedTest::busy, x -> x.nudge(3));
        });
        Sentence.holds("Promise 11", "IllegalStateException: it is DOWN, does not lead, or is not NORMAL.", () -> {
            both("replica N", BOUNDS, x -> x.sync(5));
            for (int far : FAR) {
                both("replica " + far, BOUNDS, x -> x.sync(far));
            }
            both("DOWN", STATE, x -> x.sync(4));
            both("not leading", STATE, x -> x.sync(1));
            both("in CHANGE", STATE, x -> x.sync(2));
            Twins.refused("in GAP", STATE, RefusedTest::worse, x -> x.sync(0));
        });
    }

    private static void times() {
        Sentence.holds("Promise 12", "IllegalArgumentException: n is not 0 .. 40.", () -> {
            for (int far : FAR) {
                both("n = " + far, ARGUMENT, x -> x.tick(far));
            }
            both("n = 41", ARGUMENT, x -> x.tick(41));
            Twins.unchanged("n = 0", RefusedTest::worse, x -> x.tick(0));
        });
        Sentence.holds("Promise 13", "IllegalArgumentException: n is not 0 .. 20.", () -> {
            for (int far : FAR) {
                both("n = " + far, ARGUMENT, x -> x.calm(far));
            }
            both("n = 21", ARGUMENT, x -> x.calm(21));
            Twins.unchanged("n = 0", RefusedTest::worse, x -> x.calm(0));
        });
        Sentence.holds("Promise 14", "The sequencer is not up any more: whether it was.", () -> {
            Twins.unchanged("it was not", RefusedTest::worse, x -> Check.yes("false", !x.fail()));
        });
    }

    private static void bytes() {
        Sentence.holds("Promise 23", "NONE, and the output stays, if there is none such.", () -> {
            for (int far : FAR) {
                Twins.unchanged("k = " + far, RefusedTest::busy, x -> Check.due("NONE", x.wire(far), -1));
            }
            Twins.unchanged("behind the last", RefusedTest::busy, x -> Check.due("NONE", x.wire(x.about(0)), -1));
            Twins.unchanged("an empty air", () -> new OrderedWorks(0, 0), x -> Check.due("NONE", x.wire(0), -1));
        });
        Sentence.holds("Promise 24", "IndexOutOfBoundsException: there is none such.", () -> {
            both("replica N", BOUNDS, x -> x.image(5));
            for (int far : FAR) {
                both("replica " + far, BOUNDS, x -> x.image(far));
            }
        });
        Sentence.holds("Promise 26", "false, and none come, if n is not 0 .. 8, or it would have more than 1500.", () -> {
            for (int n : new int[] {-1, 9, Integer.MIN_VALUE, Integer.MAX_VALUE}) {
                Twins.unchanged("n = " + n, RefusedTest::busy, x -> Check.yes("false", !x.put(-1, n)));
            }
            Twins.unchanged("n = 0", RefusedTest::busy, x -> Check.yes("true", x.put(-1, 0)));
        });
    }

    /** An object with a full tape: a good message, and bytes behind it. */
    private static OrderedWorks fullTape() {
        OrderedWorks x = busy();
        x.wire(0);
        x.take(-1, -1);
        for (int i = 0; i < 1500; i++) {
            x.put(0, 1);
        }
        return x;
    }

    private static void tapes() {
        Sentence.holds("Promise 26", "or it would have more than 1500", () -> {
            for (int n = 1; n <= 8; n++) {
                int bytes = n;
                Twins.unchanged("a full tape", RefusedTest::fullTape, x -> Check.yes("false", !x.put(-1, bytes)));
            }
        });
        Sentence.holds("Promise 28", "(There is none TOLD then.)", () -> {
            OrderedWorks x = busy();
            x.put(9, 1);
            String before = Seen.now(x).replaceAll("\nfault [^\n]*\ntold [^\n]*", "");
            Check.thrown("a FAULT", ARGUMENT, () -> x.untake());
            Check.text("all but the tape, the FAULT and THE TOLD stands",
                Seen.now(x).replaceAll("\nfault [^\n]*\ntold [^\n]*", ""), before);
            Check.due("a FAULT", x.fault(0), 6);
            Check.due("none TOLD", x.tolds(), 0);
        });
    }

    /** An object whose air and logs are full. */
    private static OrderedWorks fullLogs() {
        OrderedWorks x = new OrderedWorks(0, 0);
        Air.fill(x, 0, 100);
        for (int i = 0; i < 67; i++) {
            x.again(0);
        }
        return x;
    }

    private static void full() {
        Sentence.holds("Terms", "At most 200 lie there: what is sent beyond is lost at once", () -> {
            Check.due("a full air", fullLogs().about(0), 200);
            Twins.refused("a lost one", ARGUMENT, RefusedTest::fullLogs, x -> x.deliver(x.about(1) - 1));
            Twins.refused("a lost one", ARGUMENT, RefusedTest::fullLogs, x -> x.lose(x.about(1) - 1));
            Twins.refused("n = 41", ARGUMENT, RefusedTest::fullLogs, x -> x.flow(41));
            Twins.refused("open", STATE, RefusedTest::fullLogs, x -> x.request(0, 0, 0, 0));
            Twins.refused("not leading", STATE, RefusedTest::fullLogs, x -> x.sync(1));
            Twins.unchanged("slot 101", RefusedTest::fullLogs, x -> Check.due("none", x.entry(0, 101, 0), -1));
        });
    }

    private static void asking() {
        Sentence.holds("Not promised", "Nothing is promised beyond the answers and state changes described above", () -> {
            int[] args = {-1, 0, 1, 2, 3, 4, 5, 6, 7, 8, 9, 10, 11, 99, 100, 101, 199, 200, 1499, 1500, 2559, 2560,
                Integer.MIN_VALUE, Integer.MAX_VALUE};
            Twins.unchanged("asking", RefusedTest::worse, x -> {
                for (int a : args) {
                    x.answer(a);
                    x.about(a);
                    x.output(a);
                    x.fault(a);
                    x.told(a);
                    for (int b : args) {
                        x.replica(a, b);
                        x.word(a, b);
                        x.client(a, b);
                        x.message(a, b);
                        for (int what = -1; what < 7; what++) {
                            x.entry(a, b, what);
                        }
                    }
                }
                x.tolds();
                x.broken();
            });
        });
    }
}
