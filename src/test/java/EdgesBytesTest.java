/** The boundary cases of BYTES and THE IMAGE: promises 23 to 25. */
public final class EdgesBytesTest {
    private static final int[] FAR = {-1, Integer.MIN_VALUE, Integer.MAX_VALUE};

    public static void main(String[] args) {
        whoAndWhom();
        numbers();
        numbersOfViews();
        requests();
        sums();
        words();
        logs();
        replies();
        blocks();
        entriesOfBlocks();
        nothingInBlocks();
        promise23();
        promise24();
        promise25();
        Sentence.end();
    }

    private static void wire(String what, OrderedWorks x, int k, Tape due) {
        Tape whole = due.summed();
        Check.due(what + ": how many", x.wire(k), whole.length());
        whole.output(what, x);
    }

    private static void newest(String what, OrderedWorks x, Tape due) {
        wire(what, x, x.about(0) - 1, due);
    }

    private static void whoAndWhom() {
        Sentence.holds("BYTES", "who sent it (255 the sequencer); to whom (a replica, or 16 more than a client)", () -> {
            OrderedWorks x = new OrderedWorks(2, 0);
            x.request(0, 0, 0, 0);
            wire("the sequencer to the first replica", x, 0, Tape.of(0, 255, 0, 1, 1, 0, 1, 0, 0).word(0));
            wire("the sequencer to the last replica", x, 6, Tape.of(0, 255, 6, 1, 1, 0, 1, 0, 0).word(0));
            x.deliver(6);
            newest("the last replica to the first client", x, Tape.of(11, 6, 16, 0, 1, 1, 1, 0));
            x.request(3, 0, 0, 0);
            x.deliver(Air.last(x, Air.STAMPED, -1, 6));
            newest("to the last client", x, Tape.of(11, 6, 19, 0, 1, 2, 1, 0));
            x.suspect(6);
            newest("the last replica to replica 1", x, Tape.of(9, 6, 1, 1, 1, 0, 1, 0, 2, 1, 0, 1, 0, 0).word(0)
                .and(1, 3, 1, 0, 0).word(0));
        });
    }

    private static void numbers() {
        Sentence.holds("BYTES", "seven bits in a byte, the lowest first, 128 more in all but the last; as few bytes as can be",
            () -> {
                OrderedWorks x = new OrderedWorks(0, 0);
                x.request(0, 0, 0, 0);
                int[][] due = {{127, 127}, {128, 128, 1}, {129, 129, 1}, {255, 255, 1}, {256, 128, 2},
                    {16383, 255, 127}, {16384, 128, 128, 1}, {16385, 129, 128, 1}};
                int count = 1;
                for (int[] d : due) {
                    for (; count < d[0]; count++) {
                        Air.clear(x);
                        x.again(0);
                    }
                    Tape tape = Tape.of(0, 255, 2, 1).and(java.util.Arrays.copyOfRange(d, 1, d.length));
                    wire("k = " + d[0], x, 2, tape.and(0, 1, 0, 0).word(0));
                }
            });
    }

    private static void numbersOfViews() {
        Sentence.holds("BYTES", "Numbers (s, k, slots, m, BASE, number, L and S of a VIEW)", () -> {
            OrderedWorks x = new OrderedWorks(0, 0);
            for (int lead = 1; lead <= 127; lead++) {
                Air.clear(x);
                x.suspect(1);
            }
            wire("L = 127", x, 0, Tape.of(8, 1, 0, 127, 1));
            Air.clear(x);
            x.suspect(1);
            wire("L = 128", x, 0, Tape.of(8, 1, 0, 128, 1, 1));
            while (x.about(4) < 127) {
                x.install();
            }
            Air.clear(x);
            x.request(0, 0, 0, 0);
            wire("s = 127", x, 0, Tape.of(0, 255, 0, 127, 1, 0, 1, 0, 0).word(0));
            Air.clear(x);
            Air.stampTo(x, 0, 1);
            newest("S = 127", x, Tape.of(9, 1, 2, 128, 1, 127, 0, 1, 0, 0));
            x.install();
            Air.stampTo(x, 0, 1);
            newest("S = 128", x, Tape.of(9, 1, 2, 128, 1, 128, 1, 0, 1, 0, 0));
            OrderedWorks y = new OrderedWorks(0, 0);
            y.sync(0);
            Air.deliver(y, Air.SYNC, 0, 1);
            newest("m = 0", y, Tape.of(6, 1, 0, 0, 1, 0));
            Air.fill(y, 0, 100);
            y.sync(0);
            Air.deliver(y, Air.SYNC, 0, 1);
            newest("m = 100", y, Tape.of(6, 1, 0, 0, 1, 100));
            Air.deliver(y, Air.SYNC_REPLY, 1, 0);
            newest("POINT of 100", y, Tape.of(7, 0, 2, 0, 1, 100));
            Air.stampTo(y, 0, 2);
            y.nudge(2);
            newest("slot 101", y, Tape.of(1, 2, 0, 0, 1, 101));
        });
    }

    private static void requests() {
        Sentence.holds("BYTES", "A REQUEST: client, number, kind, key (one byte each but the number), word.", () -> {
            for (int c = 0; c < 4; c++) {
                OrderedWorks x = new OrderedWorks(0, 0);
                for (int number = 1; number <= 8; number++) {
                    x.request(c, number % 3, number - 1, 7);
                    wire("a request", x, 0, Tape.of(0, 255, 0, 1, number, c, number, number % 3, number - 1).word(7));
                    Air.settle(x);
                }
            }
        });
    }

    private static void sums() {
        Sentence.holds("BYTES", "it is -1 at first; for each byte b: it is x-ored with b, then eight times: shifted one to the"
            + " right (a 0 comes), and if the bit that went is 1 x-ored with EDB88320 (hexadecimal); at the end all its bits are"
            + " turned.", () -> {
                OrderedWorks x = new OrderedWorks(0, 0);
                for (int word : new int[] {0, 1, -1, Integer.MIN_VALUE, 0x12345678}) {
                    x.request(0, 0, 0, word);
                    int length = x.wire(2);
                    long sum = 0xFFFFFFFFL;
                    for (int i = 0; i < length - 4; i++) {
                        sum ^= x.output(i);
                        for (int times = 0; times < 8; times++) {
                            boolean went = sum % 2 == 1;
                            sum /= 2;
                            if (went) {
                                sum ^= 0xEDB88320L;
                            }
                        }
                    }
                    sum = 0xFFFFFFFFL - sum;
                    for (int i = 0; i < 4; i++) {
                        Check.due("byte " + i + " of the SUM", x.output(length - 4 + i), sum >> 24 - 8 * i & 255);
                    }
                    Air.settle(x);
                }
            });
    }

    private static void words() {
        Sentence.holds("BYTES", "Words: four bytes, the highest first.", () -> {
            int[][] due = {{0, 0, 0, 0, 0}, {-1, 255, 255, 255, 255}, {Integer.MIN_VALUE, 128, 0, 0, 0},
                {Integer.MAX_VALUE, 127, 255, 255, 255}, {255, 0, 0, 0, 255}, {256, 0, 0, 1, 0},
                {0x01020304, 1, 2, 3, 4}};
            for (int[] d : due) {
                OrderedWorks x = new OrderedWorks(0, 0);
                x.request(3, 2, 7, d[0]);
                wire("word " + d[0], x, 0, Tape.of(0, 255, 0, 1, 1, 3, 1, 2, 7, d[1], d[2], d[3], d[4]));
                x.deliver(0);
                Air.clear(x);
                x.request(0, 0, 7, 0);
                x.deliver(x.message(0, 0));
                newest("as an ANSWER", x, Tape.of(11, 0, 16, 0, 1, 2, 1, 1, d[1], d[2], d[3], d[4]));
            }
        });
    }

    private static void logs() {
        Sentence.holds("BYTES", "A LOG: how many entries, a number, then of each 0 (a NOTHING), or 1 and the REQUEST.", () -> {
            OrderedWorks x = new OrderedWorks(0, 0);
            x.sync(0);
            newest("no entry", x, Tape.of(5, 0, 2, 0, 1, 0));
            Air.stampTo(x, 0);
            Air.stampTo(x, 0, 0);
            Air.deliver(x, Air.GAP_COMMIT, 0, 1);
            Air.deliver(x, Air.GAP_REPLY, 1, 0);
            x.sync(0);
            newest("a NOTHING and a request", x, Tape.of(5, 0, 2, 0, 1, 2, 0, 1, 0, 1, 2, 0).word(1));
            OrderedWorks y = new OrderedWorks(0, 0);
            Air.fill(y, 1, 100);
            y.sync(0);
            Tape full = Tape.of(5, 0, 2, 0, 1, 100);
            for (int i = 0; i < 100; i++) {
                full.and(1, 1, 1, 2, 0).word(1);
            }
            newest("100 entries", y, full);
            y.suspect(2);
            Tape turned = Tape.of(9, 2, 1, 1, 1, 0, 1, 0, 100);
            Tape start = Tape.of(10, 1, 2, 1, 1, 0, 100);
            for (int i = 0; i < 100; i++) {
                turned.and(1, 1, 1, 2, 0).word(1);
                start.and(1, 1, 1, 2, 0).word(1);
            }
            newest("TURNED of 100", y, turned);
            Air.deliver(y, Air.TURNED, 2, 1);
            newest("START of 100", y, start);
        });
    }

    private static void replies() {
        Sentence.holds("BYTES", "REPLY: VIEW, slot, number, 1 and the ANSWER, or 0", () -> {
            OrderedWorks x = new OrderedWorks(0, 0);
            Air.fill(x, 2, 99);
            Air.stampTo(x, 2, 0);
            newest("by the leader, slot 100, an ANSWER of 0", x, Tape.of(11, 0, 18, 0, 1, 100, 1, 1).word(0));
            Air.stampTo(x, 2, 2);
            Air.deliver(x, Air.LOOKUP, 2, 0);
            Air.deliver(x, Air.FOUND, 0, 2);
            newest("by another one", x, Tape.of(11, 2, 18, 0, 1, 100, 1, 0));
        });
    }

    private static Tape image(OrderedWorks x, int r) {
        Tape all = Tape.of();
        int[] head = {79, 82, 87, 75, r, x.replica(r, 1), 0, 0};
        int[] whats = {2, 3, 8, 9, 4, 6, 10, 5};
        Tape block = Tape.of(head);
        for (int what : whats) {
            block.word(x.replica(r, what));
        }
        endBlock(all, block);
        for (int first = 1; first <= 100; first += 25) {
            block = Tape.of();
            for (int slot = first; slot < first + 25; slot++) {
                if (x.entry(r, slot, 0) == 1) {
                    block.and(1, x.entry(r, slot, 1), x.entry(r, slot, 3), x.entry(r, slot, 4));
                    block.word(x.entry(r, slot, 2)).word(x.entry(r, slot, 5)).word(0);
                } else {
                    block.word(0).word(0).word(0).word(0);
                }
            }
            endBlock(all, block);
        }
        return all;
    }

    private static void endBlock(Tape all, Tape block) {
        while (block.length() < 508) {
            block.and(0);
        }
        block = block.summed();
        for (int i = 0; i < block.length(); i++) {
            all.and(block.at(i));
        }
    }

    private static void blocks() {
        Sentence.holds("IMAGE", "THE IMAGE of a replica: five BLOCKS of 512 bytes.", () -> {
            OrderedWorks x = new OrderedWorks(2, 0);
            for (int r : new int[] {0, 6}) {
                Check.due("a new one", x.image(r), 2560);
                Check.due("its number", x.output(4), r);
                image(x, r).output("a new one", x);
            }
        });
        Sentence.holds("IMAGE", "its number, its STATUS, two bytes 0; then as words L, S, L and S of the view in which it was"
            + " NORMAL last, BASE, POINT, how far it is SYNCED, the log's length", () -> {
                OrderedWorks x = new OrderedWorks(0, 0);
                Air.fill(x, 0, 2);
                x.install();
                Air.stampTo(x, 0, 0, 1, 2);
                Air.settle(x);
                Air.stampTo(x, 0, 0, 1, 2);
                Air.settle(x);
                x.sync(0);
                Air.settle(x);
                x.request(1, 0, 0, 0);
                Air.settle(x);
                x.sync(0);
                Air.deliver(x, Air.SYNC, 0, 2);
                Air.clear(x);
                int[] words = {0, 2, 0, 2, 2, x.replica(2, 6), x.replica(2, 10), x.replica(2, 5)};
                Check.yes("POINT, SYNCED and BASE are different", words[5] > 2 && words[6] > words[5]);
                x.image(2);
                for (int i = 0; i < words.length; i++) {
                    Check.due("word " + i, x.output(8 + 4 * i + 3), words[i]);
                }
                image(x, 2).output("NORMAL", x);
                x.suspect(2);
                x.image(2);
                Check.due("CHANGE", x.output(5), 2);
                Check.due("L", x.output(11), 1);
                Check.due("L of NORMAL", x.output(19), 0);
                image(x, 2).output("CHANGE", x);
                Air.stampTo(x, 1);
                Air.stampTo(x, 1, 0);
                x.image(0);
                Check.due("GAP", x.output(5), 1);
                image(x, 0).output("GAP", x);
                x.install();
                Air.stampTo(x, 1, 2);
                x.image(2);
                Check.due("S", x.output(15), 3);
                Check.due("S of NORMAL", x.output(23), 2);
                image(x, 2).output("CHANGE to another session", x);
            });
    }

    private static void entriesOfBlocks() {
        Sentence.holds("IMAGE", "The others: 25 ENTRIES each, in order", () -> {
            for (int length : new int[] {1, 24, 25, 26, 50, 51, 75, 76, 99, 100}) {
                OrderedWorks x = new OrderedWorks(0, 0);
                Air.fill(x, 3, length);
                x.image(1);
                int last = 512 * (1 + (length - 1) / 25) + 16 * ((length - 1) % 25);
                Check.due("the last entry", x.output(last), 1);
                Check.due("its client", x.output(last + 1), 3);
                int next = 512 * (1 + length / 25) + 16 * (length % 25);
                if (length < 100) {
                    Check.due("none behind it", x.output(next), 0);
                }
                image(x, 1).output(length + " entries", x);
            }
        });
        Sentence.holds("IMAGE", "a request: 1, client, kind, key, number (a word), its word, four bytes 0", () -> {
            OrderedWorks x = new OrderedWorks(0, 0);
            for (int i = 0; i < 3; i++) {
                Air.whole(x, 3, 2, 7, Integer.MIN_VALUE);
            }
            x.image(0);
            int[] third = {1, 3, 2, 7, 0, 0, 0, 3, 128, 0, 0, 0, 0, 0, 0, 0};
            for (int i = 0; i < third.length; i++) {
                Check.due("byte " + i, x.output(512 + 32 + i), third[i]);
            }
        });
    }

    private static void nothingInBlocks() {
        Sentence.holds("IMAGE", "a NOTHING, or none: 16 bytes 0", () -> {
            OrderedWorks x = new OrderedWorks(0, 0);
            Air.stampTo(x, 0);
            Air.stampTo(x, 0, 0);
            Air.deliver(x, Air.GAP_COMMIT, 0, 1);
            Air.deliver(x, Air.GAP_REPLY, 1, 0);
            x.image(0);
            for (int i = 0; i < 16; i++) {
                Check.due("a NOTHING", x.output(512 + i), 0);
                Check.due("none", x.output(512 + 32 + i), 0);
            }
            Check.due("a request between them", x.output(512 + 16), 1);
            OrderedWorks y = new OrderedWorks(0, 0);
            Air.fill(y, 0, 2);
            Air.stampTo(y, 0, 2);
            Air.clear(y);
            y.suspect(0);
            y.suspect(1);
            Air.deliver(y, Air.TURNED, 0, 1);
            Air.deliver(y, Air.START, 1, 2);
            Check.due("its log became shorter", y.replica(2, 5), 2);
            y.image(2);
            Check.due("what stood there is none", y.output(512 + 32), 0);
            image(y, 2).output("shorter", y);
        });
        Sentence.holds("IMAGE", "All else is 0, but the last four bytes of each BLOCK: the SUM of the 508 ahead.", () -> {
            OrderedWorks x = new OrderedWorks(0, 0);
            Air.fill(x, 0, 100);
            x.image(0);
            for (int i = 40; i < 508; i++) {
                Check.due("behind the head", x.output(i), 0);
            }
            for (int block = 1; block < 5; block++) {
                for (int i = 400; i < 508; i++) {
                    Check.due("behind the entries", x.output(512 * block + i), 0);
                }
            }
            for (int block = 0; block < 5; block++) {
                Tape ahead = Tape.of();
                for (int i = 0; i < 508; i++) {
                    ahead.and(x.output(512 * block + i));
                }
                for (int i = 0; i < 4; i++) {
                    Check.due("SUM", x.output(512 * block + 508 + i), ahead.sum() >>> 24 - 8 * i & 255);
                }
            }
        });
    }

    private static void promise23() {
        Sentence.holds("Promise 23", "NONE, and the output stays, if there is none such.", () -> {
            OrderedWorks x = new OrderedWorks(0, 0);
            Check.due("an empty air", x.wire(0), -1);
            Check.due("no output", x.output(0), -1);
            x.request(0, 0, 0, 0);
            for (int round = 0; round < 2; round++) {
                int length = round == 0 ? x.wire(2) : x.image(1);
                StringBuilder before = new StringBuilder();
                for (int i = 0; i <= length; i++) {
                    before.append(x.output(i)).append(' ');
                }
                for (int far : FAR) {
                    Check.due("k = " + far, x.wire(far), -1);
                }
                Check.due("behind the last", x.wire(3), -1);
                StringBuilder after = new StringBuilder();
                for (int i = 0; i <= length; i++) {
                    after.append(x.output(i)).append(' ');
                }
                Check.text("the output", after.toString(), before.toString());
            }
            Check.due("the first", x.wire(0), 17);
            Check.due("the last", x.wire(2), 17);
        });
        Sentence.holds("Promise 23", "The BYTES of the k-th oldest message in the air are the output: how many", () -> {
            OrderedWorks x = new OrderedWorks(1, 0);
            x.request(0, 0, 0, 0);
            for (int i = 1; i < 40; i++) {
                x.again(0);
            }
            wire("the last of a full air", x, 199, Tape.of(0, 255, 4, 1, 40, 0, 1, 0, 0).word(0));
            Check.due("none behind it", x.wire(200), -1);
            x.lose(0);
            wire("the first is another one then", x, 0, Tape.of(0, 255, 1, 1, 1, 0, 1, 0, 0).word(0));
            Check.due("the message lies there still", x.about(0), 199);
        });
    }

    private static void promise24() {
        Sentence.holds("Promise 24", "THE IMAGE of a replica is the output: 2560. IndexOutOfBoundsException: there is none such.",
            () -> {
                OrderedWorks x = new OrderedWorks(1, 0);
                x.request(0, 0, 0, 0);
                x.wire(0);
                Check.thrown("replica N", IndexOutOfBoundsException.class, () -> x.image(5));
                for (int far : FAR) {
                    Check.thrown("replica " + far, IndexOutOfBoundsException.class, () -> x.image(far));
                }
                Tape.of(0, 255, 0, 1, 1, 0, 1, 0, 0).word(0).summed().output("the output stays", x);
                x.down(4);
                Check.due("the last, which is DOWN", x.image(4), 2560);
                Check.due("the first", x.image(0), 2560);
            });
    }

    private static void promise25() {
        Sentence.holds("Promise 25", "Byte i of the output (0 .. 255); NONE if there is none.", () -> {
            OrderedWorks x = new OrderedWorks(0, 0);
            Check.due("an empty output", x.output(0), -1);
            x.request(0, 0, 0, -1);
            x.image(0);
            Check.yes("the last of an image", x.output(2559) >= 0);
            Check.due("none behind it", x.output(2560), -1);
            x.wire(0);
            Check.due("the sequencer", x.output(1), 255);
            Check.due("a byte of the word", x.output(12), 255);
            Check.yes("the last of a message", x.output(16) >= 0);
            for (int i = 17; i < 2600; i++) {
                Check.due("what stood behind it is gone", x.output(i), -1);
            }
            for (int far : FAR) {
                Check.due("i = " + far, x.output(far), -1);
            }
        });
    }
}
