/** The boundary cases of the tape and of what is read from it: promises 26 to 31. */
public final class EdgesTapeTest {
    private static final int[] FAR = {-1, Integer.MIN_VALUE, Integer.MAX_VALUE};
    /** One good message of each KIND, without its SUM; the last ones have the longest forms. */
    private static final int[][] GOOD = {
        {0, 255, 6, 1, 1, 3, 1, 2, 7, 1, 2, 3, 4}, {1, 0, 0, 1, 1, 1}, {2, 6, 6, 0, 1, 9, 0, 1, 0, 0, 9, 9, 9, 9},
        {3, 0, 1, 1, 1, 100}, {4, 1, 0, 1, 1, 1}, {5, 0, 1, 1, 1, 2, 0, 1, 3, 1, 2, 7, 4, 3, 2, 1}, {6, 0, 1, 1, 1, 0},
        {7, 0, 1, 1, 1, 1}, {8, 0, 1, 1, 1}, {9, 0, 1, 1, 1, 0, 1, 0, 1, 1, 0, 1, 0, 0, 0, 0, 0, 0},
        {10, 0, 1, 1, 1, 4, 1, 0}, {11, 0, 19, 1, 1, 1, 1, 0}, {12, 0, 1, 1, 1},
        {11, 0, 16, 1, 1, 1, 1, 1, 5, 6, 7, 8}, {12, 0, 1, 255, 255, 255, 255, 7, 128, 128, 128, 128, 1},
    };

    public static void main(String[] args) {
        promise26();
        promise27();
        endsTooEarly();
        bytesThatCannotBe();
        bytesOfRequests();
        badNumbers();
        numbersEverywhere();
        longLogs();
        otherSums();
        bytesBehind();
        firstThatIsMet();
        emptyThen();
        promise29();
        promises30and31();
        mostTold();
        Sentence.end();
    }

    private static OrderedWorks fresh() {
        return new OrderedWorks(0, 0);
    }

    private static Tape ping() {
        return Tape.of(12, 0, 1, 2, 3);
    }

    private static void promise26() {
        Sentence.holds("Promise 26", "The lowest n bytes of v, the highest of them first, come to the tape: true", () -> {
            OrderedWorks x = fresh();
            int sum = ping().sum();
            Check.yes("5 and 4", x.put(0x7FFF_FF0C_0001_0203L, 5) && x.put(sum, 4));
            Check.due("read", x.untake(), 12);
            Check.yes("8 and 1", x.put(0x0C00_0102_0300_0000L | sum >>> 8 & 0xFFFFFFL, 8) && x.put(-1L << 8 | sum & 255, 1));
            Check.due("read", x.untake(), 12);
            for (int i = 0; i < 5; i++) {
                Check.yes("1", x.put(0x1234_5678_9ABC_DE00L | ping().at(i), 1));
            }
            Check.yes("2, twice", x.put(sum >>> 16, 2) && x.put(sum, 2));
            Check.due("read", x.untake(), 12);
            Check.yes("0 bytes", x.put(-1, 0));
            Tape.of().faulty("none came", x, 1, 0);
        });
        Sentence.holds("Promise 26", "false, and none come, if n is not 0 .. 8, or it would have more than 1500", () -> {
            OrderedWorks x = fresh();
            ping().summed().put(x);
            for (int n : new int[] {-1, 9, -8, Integer.MIN_VALUE, Integer.MAX_VALUE}) {
                Check.yes("n = " + n, !x.put(-1, n));
            }
            Check.due("none came", x.untake(), 12);
            fillTo(x, 1492);
            Check.yes("1500", x.put(0, 8));
            Check.yes("1501", !x.put(0, 1));
            Check.yes("1508", !x.put(0, 8));
            Check.yes("1500 and none", x.put(0, 0));
            Check.due("1500 bytes", places(x), 9);
            fillTo(x, 1493);
            Check.yes("1501", !x.put(-1, 8));
            Check.yes("1500", x.put(0, 7));
            Check.yes("1501", !x.put(-1, 1));
            Tape.of().faulty("it holds 1500: bytes behind", x, 6, 9);
            fillTo(x, 1499);
            Check.yes("1501", !x.put(-1, 2));
            Check.yes("1500", x.put(-1, 1));
            Tape.of().faulty("it holds 1500: bytes behind", x, 6, 9);
            Check.yes("it is empty then", x.put(0, 8));
        });
    }

    /** A good message with bytes behind it, so many in all. */
    private static void fillTo(OrderedWorks x, int length) {
        ping().summed().put(x);
        for (int i = 9; i < length; i++) {
            x.put(0, 1);
        }
    }

    private static int places(OrderedWorks x) {
        Check.thrown("bytes behind", IllegalArgumentException.class, () -> x.untake());
        return x.fault(1);
    }

    private static void promise27() {
        Sentence.holds("Promise 27", "The tape becomes what the output is (of more than 1500 bytes the first; the output stays)",
            () -> {
                OrderedWorks x = fresh();
                x.put(12, 1);
                Check.due("an empty output", x.take(0, 0), 0);
                Tape.of().faulty("an empty tape", x, 1, 0);
                x.request(0, 0, 0, 5);
                x.wire(0);
                x.put(1, 8);
                Check.due("what was on the tape is gone", x.take(-1, -1), 17);
                Check.due("read", x.untake(), 0);
                Check.due("its word", x.told(9), 5);
                x.image(0);
                Check.due("an image", x.take(-1, -1), 1500);
                Check.yes("it is full then", !x.put(0, 1));
                Check.due("the output stays", x.output(2559), sumByte());
                Check.due("so it can be taken again", x.take(-1, -1), 1500);
                x.wire(0);
                Check.due("a shorter output", x.take(-1, -1), 17);
                Check.due("read", x.untake(), 0);
            });
        Sentence.holds("Promise 27", "with one bit (0 .. 7, of byte i) turned, if i is a byte of the tape then and bit is 0 .. 7"
            + " (else none is): how many bytes it has", () -> {
                OrderedWorks x = fresh();
                x.request(0, 0, 0, 0);
                x.wire(0);
                for (int bit = 0; bit < 8; bit++) {
                    Check.due("byte 5, the client", x.take(5, bit), 17);
                    Tape.of().faulty("bit " + bit, x, bit < 2 ? 5 : 2, bit < 2 ? 13 : 5);
                }
                x.take(0, 3);
                Tape.of().faulty("byte 0, bit 3: KIND 8", x, 5, 5);
                x.take(16, 7);
                Tape.of().faulty("the last byte", x, 5, 13);
                int[][] none = {{17, 0}, {-1, 0}, {1500, 0}, {Integer.MIN_VALUE, 0}, {Integer.MAX_VALUE, 0},
                    {5, 8}, {5, -1}, {5, 32}, {5, Integer.MIN_VALUE}, {5, Integer.MAX_VALUE}};
                for (int[] n : none) {
                    Check.due("byte " + n[0] + ", bit " + n[1], x.take(n[0], n[1]), 17);
                    Check.due("none is turned", x.untake(), 0);
                }
                x.image(0);
                Check.due("1499 is a byte of it", x.take(1499, 0), 1500);
                Check.due("1500 is none, though it is one of the output", x.take(1500, 0), 1500);
            });
    }

    /** The last byte that an image of a new replica 0 has by the sum of its last block, which is all 0. */
    private static int sumByte() {
        Tape zeros = Tape.of();
        while (zeros.length() < 508) {
            zeros.and(0);
        }
        return zeros.sum() & 255;
    }

    private static void endsTooEarly() {
        Sentence.holds("Promise 28", "1 it ends too early (at its length)", () -> {
            OrderedWorks x = fresh();
            Tape.of().faulty("an empty tape", x, 1, 0);
            for (int[] bytes : GOOD) {
                Tape whole = Tape.of(bytes).summed();
                for (int length = 0; length < whole.length(); length++) {
                    whole.cut(length).faulty("KIND " + bytes[0] + ", " + length + " bytes", x, 1, length);
                }
                whole.good("KIND " + bytes[0], x);
            }
        });
    }

    private static void bytesThatCannotBe() {
        Sentence.holds("Promise 28", "2 a byte that can't be: a KIND above 12", () -> {
            OrderedWorks x = fresh();
            Tape.of(12, 0, 0, 0, 0).summed().good("12", x);
            for (int kind : new int[] {13, 127, 128, 255}) {
                Tape.of(kind).faulty("KIND " + kind, x, 2, 0);
            }
        });
        Sentence.holds("Promise 28", "a sender above 6 and not 255", () -> {
            OrderedWorks x = fresh();
            for (int sender : new int[] {0, 6, 255}) {
                Tape.of(12, sender, 0, 0, 0).summed().good("sender " + sender, x);
                Check.due("it is TOLD", x.told(1), sender);
            }
            for (int sender : new int[] {7, 8, 16, 19, 128, 254}) {
                Tape.of(12, sender, 0, 0, 0).summed().faulty("sender " + sender, x, 2, 1);
                Tape.of(12, sender).faulty("ahead of the end", x, 2, 1);
            }
        });
        Sentence.holds("Promise 28", "one to whom above 6 and not 16 .. 19", () -> {
            OrderedWorks x = fresh();
            for (int whom : new int[] {0, 6, 16, 17, 18, 19}) {
                Tape.of(12, 0, whom, 0, 0).summed().good("to " + whom, x);
                Check.due("it is TOLD", x.told(2), whom);
            }
            for (int whom : new int[] {7, 15, 20, 128, 254, 255}) {
                Tape.of(12, 0, whom, 0, 0).summed().faulty("to " + whom, x, 2, 2);
                Tape.of(12, 0, whom).faulty("ahead of the end", x, 2, 2);
            }
        });
    }

    /** What stands ahead of a REQUEST in each KIND that has one, and ahead of an entry in those that have a LOG. */
    private static final int[][] AHEAD = {{0, 0, 0, 1, 1}, {2, 0, 0, 1, 1, 1}, {5, 0, 0, 1, 1, 1, 1},
        {9, 0, 0, 1, 1, 1, 1, 1, 1, 1}, {10, 0, 0, 1, 1, 1, 1, 1}, {5, 0, 0, 1, 1, 2, 0, 1}};

    private static void bytesOfRequests() {
        Sentence.holds("Promise 28", "a client above 3, a kind above 2, a key above 7", () -> {
            OrderedWorks x = fresh();
            for (int[] ahead : AHEAD) {
                int at = ahead.length;
                Tape.of(ahead).and(3, 1, 2, 7).word(-1).summed().good("the highest", x);
                Tape.of(ahead).and(0, 1, 0, 0).word(-1).summed().good("the lowest", x);
                Tape.of(ahead).and(4).faulty("client 4", x, 2, at);
                Tape.of(ahead).and(255, 1, 0, 0).word(0).summed().faulty("client 255", x, 2, at);
                Tape.of(ahead).and(3, 1, 3).faulty("kind 3", x, 2, at + 2);
                Tape.of(ahead).and(3, 1, 255, 0).word(0).summed().faulty("kind 255", x, 2, at + 2);
                Tape.of(ahead).and(3, 1, 2, 8).faulty("key 8", x, 2, at + 3);
                Tape.of(ahead).and(3, 128, 1, 2, 255).word(0).summed().faulty("key 255", x, 2, at + 4);
            }
        });
        Sentence.holds("Promise 28", "an answer's or an entry's first byte above 1 (at it)", () -> {
            OrderedWorks x = fresh();
            Tape.of(11, 0, 16, 0, 1, 1, 1, 1).word(-1).summed().good("an answer", x);
            Tape.of(11, 0, 16, 0, 1, 1, 1, 0).summed().good("no answer", x);
            for (int first : new int[] {2, 128, 255}) {
                Tape.of(11, 0, 16, 0, 1, 1, 1, first).word(0).summed().faulty("an answer's " + first, x, 2, 7);
                Tape.of(5, 0, 0, 0, 1, 1, first).summed().faulty("the first entry's " + first, x, 2, 6);
                Tape.of(5, 0, 0, 0, 1, 2, 0, first).summed().faulty("the second entry's " + first, x, 2, 7);
                Tape.of(9, 0, 0, 0, 1, 0, 1, 0, 1, first).summed().faulty("TURNED " + first, x, 2, 9);
                Tape.of(10, 0, 0, 0, 1, 0, 1, first).summed().faulty("START " + first, x, 2, 7);
            }
        });
    }

    private static void badNumbers() {
        Sentence.holds("Promise 28", "3 a number of more than five bytes (also if the tape ends behind the fifth)", () -> {
            OrderedWorks x = fresh();
            Tape.of(12, 0, 0, 0, 128, 128, 128, 128, 1).summed().good("five bytes", x);
            Tape.of(12, 0, 0, 0, 128, 128, 128, 128, 128).faulty("it ends behind the fifth", x, 3, 4);
            Tape.of(12, 0, 0, 0, 255, 255, 255, 255, 255, 1).summed().faulty("six bytes", x, 3, 4);
            Tape.of(12, 0, 0, 0, 128, 128, 128, 128, 129, 0).summed().faulty("six bytes", x, 3, 4);
            Tape.of(12, 0, 0, 0, 128, 128, 128, 128).faulty("it ends behind the fourth", x, 1, 8);
            Tape.of(12, 0, 0, 128).faulty("it ends behind the first", x, 1, 4);
        });
        Sentence.holds("Promise 28", "above 2147483647, or that could have fewer bytes (at its first byte)", () -> {
            OrderedWorks x = fresh();
            Tape.of(12, 0, 0, 0, 255, 255, 255, 255, 7).summed().good("2147483647", x);
            Check.due("it is TOLD", x.told(4), Integer.MAX_VALUE);
            Tape.of(12, 0, 0, 0, 128, 128, 128, 128, 8).summed().faulty("2147483648", x, 3, 4);
            Tape.of(12, 0, 0, 0, 255, 255, 255, 255, 15).summed().faulty("4294967295", x, 3, 4);
            Tape.of(12, 0, 0, 0, 128, 128, 128, 128, 16).summed().faulty("4294967296", x, 3, 4);
            Tape.of(12, 0, 0, 0, 129, 128, 128, 128, 127).summed().faulty("35 bits", x, 3, 4);
            Tape.of(12, 0, 0, 0, 0).summed().good("0 in one byte", x);
            Tape.of(12, 0, 0, 0, 128, 0).summed().faulty("0 in two bytes", x, 3, 4);
            Tape.of(12, 0, 0, 0, 127).summed().good("127 in one byte", x);
            Tape.of(12, 0, 0, 0, 255, 0).summed().faulty("127 in two bytes", x, 3, 4);
            Tape.of(12, 0, 0, 0, 128, 1).summed().good("128 in two bytes", x);
            Check.due("it is TOLD", x.told(4), 128);
            Tape.of(12, 0, 0, 0, 128, 129, 0).summed().faulty("128 in three bytes", x, 3, 4);
            Tape.of(12, 0, 0, 0, 255, 127).summed().good("16383 in two bytes", x);
            Tape.of(12, 0, 0, 0, 128, 128, 1).summed().good("16384 in three bytes", x);
            Check.due("it is TOLD", x.told(4), 16384);
            Tape.of(12, 0, 0, 0, 128, 128, 128, 1).summed().good("2097152 in four bytes", x);
            Check.due("it is TOLD", x.told(4), 2097152);
            Tape.of(12, 0, 0, 0, 128, 128, 128, 128, 0).summed().faulty("0 in five bytes", x, 3, 4);
        });
    }

    /** The places of the numbers in each of the GOOD ones: each is written with a byte too many there. */
    private static void numbersEverywhere() {
        Sentence.holds("Promise 28", "or that could have fewer bytes (at its first byte)", () -> {
            int[][] places = {{3, 4, 6}, {3, 4, 5}, {3, 4, 5, 7}, {3, 4, 5}, {3, 4, 5}, {3, 4, 5, 9}, {3, 4, 5}, {3, 4, 5},
                {3, 4}, {3, 4, 5, 6, 7, 8, 11}, {3, 4, 5, 6}, {3, 4, 5, 6}, {3, 4}};
            OrderedWorks x = fresh();
            for (int kind = 0; kind <= 12; kind++) {
                for (int place : places[kind]) {
                    Tape tape = Tape.of();
                    for (int i = 0; i < GOOD[kind].length; i++) {
                        tape.and(i == place ? GOOD[kind][i] + 128 : GOOD[kind][i]);
                        if (i == place) {
                            tape.and(0);
                        }
                    }
                    tape.summed().faulty("KIND " + kind + ", the number at " + place, x, 3, place);
                }
            }
        });
    }

    private static Tape entries(Tape ahead, int length, int nothings) {
        ahead.and(length > 127 ? new int[] {length % 128 + 128, length / 128} : new int[] {length});
        for (int i = 0; i < nothings; i++) {
            ahead.and(0);
        }
        return ahead;
    }

    private static void longLogs() {
        Sentence.holds("Promise 28", "4 a LOG of more than 100 entries (at its first byte)", () -> {
            OrderedWorks x = fresh();
            int[][] aheads = {{5, 0, 0, 1, 1}, {9, 0, 0, 1, 1, 1, 1, 1}, {10, 0, 0, 1, 1, 1}};
            for (int[] ahead : aheads) {
                int at = ahead.length;
                entries(Tape.of(ahead), 0, 0).summed().good("0", x);
                entries(Tape.of(ahead), 99, 99).summed().good("99", x);
                entries(Tape.of(ahead), 100, 100).summed().good("100", x);
                Check.due("all are TOLD", x.tolds(), at + 1 + 100);
                entries(Tape.of(ahead), 101, 101).summed().faulty("101", x, 4, at);
                entries(Tape.of(ahead), 101, 0).faulty("101, and it ends there", x, 4, at);
                entries(Tape.of(ahead), 127, 127).summed().faulty("127", x, 4, at);
                entries(Tape.of(ahead), 128, 128).summed().faulty("128", x, 4, at);
                Tape.of(ahead).and(255, 255, 255, 255, 7).faulty("2147483647", x, 4, at);
                Tape.of(ahead).and(255, 255, 255, 255, 8).faulty("more: that is no number", x, 3, at);
            }
        });
    }

    private static void otherSums() {
        Sentence.holds("Promise 28", "5 another SUM (at its first byte)", () -> {
            OrderedWorks x = fresh();
            for (int[] bytes : GOOD) {
                int sum = Tape.of(bytes).sum();
                for (int bit = 0; bit < 32; bit++) {
                    Tape.of(bytes).word(sum ^ 1 << bit).faulty("KIND " + bytes[0] + ", bit " + bit, x, 5, bytes.length);
                }
                Tape.of(bytes).word(~sum).faulty("all bits turned", x, 5, bytes.length);
                Tape.of(bytes).word(0).faulty("0", x, 5, bytes.length);
            }
        });
        Sentence.holds("BYTES", "SUM: four bytes, the highest first: of all bytes ahead of it, from the first on", () -> {
            OrderedWorks x = fresh();
            Tape.of(12, 0, 1, 2, 3).word(Tape.of(0, 1, 2, 3).sum()).faulty("without the first", x, 5, 5);
            Tape.of(12, 0, 1, 2, 3).word(Tape.of(12, 0, 1, 2).sum()).faulty("without the last", x, 5, 5);
            Tape.of(12, 0, 1, 2, 3).word(Integer.reverseBytes(ping().sum())).faulty("the lowest first", x, 5, 5);
        });
    }

    private static void bytesBehind() {
        Sentence.holds("Promise 28", "6 bytes behind it (at the first of these)", () -> {
            OrderedWorks x = fresh();
            for (int[] bytes : GOOD) {
                Tape whole = Tape.of(bytes).summed();
                whole.cut(whole.length()).and(0).faulty("one", x, 6, whole.length());
                whole.cut(whole.length()).and(255, 255, 255).faulty("three", x, 6, whole.length());
            }
            fillTo(x, 1500);
            Tape.of().faulty("as many as there is room for", x, 6, 9);
        });
    }

    private static void firstThatIsMet() {
        Sentence.holds("Promise 28", "IllegalArgumentException: a FAULT, the first that is met", () -> {
            OrderedWorks x = fresh();
            Tape.of(13, 7, 7).faulty("KIND ahead of sender", x, 2, 0);
            Tape.of(12, 7, 7, 128, 0).faulty("sender ahead of whom", x, 2, 1);
            Tape.of(12, 0, 7, 128, 0).faulty("whom ahead of a number", x, 2, 2);
            Tape.of(0, 0, 0, 1, 128, 0, 4).faulty("a number ahead of a client", x, 3, 4);
            Tape.of(0, 0, 0, 1, 1, 4, 128, 0, 3, 8).faulty("a client ahead of a number", x, 2, 5);
            Tape.of(5, 0, 0, 1, 1, 101, 2).faulty("a LOG ahead of an entry", x, 4, 5);
            Tape.of(5, 0, 0, 1, 1, 229, 0).faulty("a number ahead of a LOG", x, 3, 5);
            Tape.of(5, 0, 0, 1, 1, 2, 2).faulty("an entry ahead of the end", x, 2, 6);
            ping().word(0).and(1, 2).faulty("a SUM ahead of bytes behind", x, 5, 5);
            ping().and(0, 0, 0).faulty("the end ahead of a SUM", x, 1, 8);
        });
    }

    private static void emptyThen() {
        Sentence.holds("Promise 28", "The tape, which is empty then, is read as a message: its KIND", () -> {
            OrderedWorks x = fresh();
            for (int[] bytes : GOOD) {
                Tape.of(bytes).summed().put(x);
                Check.due("its KIND", x.untake(), bytes[0]);
                Tape.of().faulty("empty then", x, 1, 0);
            }
            Tape.of(13).faulty("a FAULT", x, 2, 0);
            Tape.of().faulty("empty then, too", x, 1, 0);
            fillTo(x, 1500);
            Tape.of().faulty("a full one", x, 6, 9);
            for (int i = 0; i < 187; i++) {
                Check.yes("all its room is free", x.put(0, 8));
            }
        });
        Sentence.holds("Promise 28", "(There is none TOLD then.)", () -> {
            OrderedWorks x = fresh();
            ping().summed().good("TOLD", x);
            Check.due("five", x.tolds(), 5);
            x.put(13, 1);
            Check.due("until it is read", x.tolds(), 5);
            Check.thrown("a FAULT", IllegalArgumentException.class, () -> x.untake());
            Check.due("none", x.tolds(), 0);
            for (int i = 0; i < 6; i++) {
                Check.due("none", x.told(i), 0);
            }
        });
    }

    private static void promise29() {
        Sentence.holds("Promise 29", "Of the latest untake(): the FAULT, 0 without (what = 0), its place (1; NONE without).", () -> {
            OrderedWorks x = fresh();
            Check.due("none was read", x.fault(0), 0);
            Check.due("none was read", x.fault(1), -1);
            Tape.of(12, 9).faulty("a FAULT", x, 2, 1);
            ping().put(x);
            Check.due("it stays until the next is read", x.fault(0), 2);
            x.put(ping().sum(), 4);
            x.untake();
            Check.due("without", x.fault(0), 0);
            Check.due("without", x.fault(1), -1);
            Tape.of().faulty("the place may be 0", x, 1, 0);
        });
        Sentence.holds("Promise 29", "NONE for another what.", () -> {
            OrderedWorks x = fresh();
            for (int round = 0; round < 2; round++) {
                for (int what : new int[] {-1, 2, 3, Integer.MIN_VALUE, Integer.MAX_VALUE}) {
                    Check.due("what = " + what, x.fault(what), -1);
                }
                Tape.of(13).faulty("a FAULT", x, 2, 0);
            }
        });
    }

    private static void promises30and31() {
        Sentence.holds("Promise 30", "(KIND is 0, who sent it 1, ..; each number, byte or word one, without SUM); 0 if there is"
            + " none", () -> {
                OrderedWorks x = fresh();
                Check.due("none was read", x.told(0), 0);
                Tape.of(2, 255, 16, 129, 1, 2, 255, 127, 3, 128, 1, 2, 7).word(Integer.MIN_VALUE).summed().good("FOUND", x);
                int[] due = {2, 255, 16, 129, 2, 16383, 3, 128, 2, 7, Integer.MIN_VALUE};
                for (int i = 0; i < due.length; i++) {
                    Check.due("number " + i, x.told(i), due[i]);
                }
                Check.due("behind the last", x.told(due.length), 0);
                for (int far : FAR) {
                    Check.due("i = " + far, x.told(far), 0);
                }
                ping().summed().good("a shorter one", x);
                for (int i = 5; i < due.length; i++) {
                    Check.due("what stood there is none", x.told(i), 0);
                }
            });
        Sentence.holds("Promise 31", "How many numbers THE TOLD has; 0 if there is none.", () -> {
            OrderedWorks x = fresh();
            Check.due("none was read", x.tolds(), 0);
            int[] due = {10, 6, 11, 6, 6, 13, 6, 6, 5, 15, 8, 8, 5, 9, 5};
            for (int i = 0; i < GOOD.length; i++) {
                Tape.of(GOOD[i]).summed().good("KIND " + GOOD[i][0], x);
                Check.due("KIND " + GOOD[i][0] + ": how many", x.tolds(), due[i]);
                Check.yes("none behind", x.told(due[i]) == 0);
            }
            Tape.of(1).faulty("a FAULT", x, 1, 1);
        });
    }

    private static void mostTold() {
        Sentence.holds("Promise 30", "Number i of THE TOLD, as they stand in its BYTES", () -> {
            OrderedWorks x = fresh();
            Tape most = Tape.of(9, 6, 19);
            for (int i = 0; i < 5; i++) {
                most.and(255, 255, 255, 255, 7);
            }
            most.and(100);
            for (int i = 0; i < 100; i++) {
                most.and(1, 3, 255, 255, 255, 255, 7, 2, 7).word(-1 - i);
            }
            most.summed().good("a TURNED of 100 requests with the longest numbers", x);
            Check.due("how many", x.tolds(), 3 + 5 + 1 + 600);
            Check.due("BASE", x.told(7), Integer.MAX_VALUE);
            Check.due("the last request's number", x.told(609 - 4), Integer.MAX_VALUE);
            Check.due("the last one's word", x.told(608), -100);
            Check.due("behind it", x.told(609), 0);
        });
    }
}
