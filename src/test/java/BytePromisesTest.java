import java.util.zip.CRC32;

/** Promises 23 to 31: bytes of messages and images, the tape, and what is read from it. */
public final class BytePromisesTest {
    public static void main(String[] args) {
        promise23();
        longNumbers();
        promise24();
        promise25();
        promise26();
        promise27();
        promise28();
        goodTapes();
        badBytes();
        badNumbers();
        badEnds();
        promise29();
        promise30and31();
        Check.end();
    }

    private static int sum(int... bytes) {
        CRC32 crc = new CRC32();
        for (int b : bytes) {
            crc.update(b);
        }
        return (int) crc.getValue();
    }

    private static void bytesAre(String what, OrderedWorks x, int... bytes) {
        for (int i = 0; i < bytes.length; i++) {
            Check.due(what + " byte " + i, x.output(i), bytes[i]);
        }
        int sum = sum(bytes);
        for (int i = 0; i < 4; i++) {
            Check.due(what + " sum " + i, x.output(bytes.length + i), sum >>> 24 - 8 * i & 255);
        }
        Check.due(what + " ends", x.output(bytes.length + 4), -1);
    }

    private static void wireIs(String what, OrderedWorks x, int kind, int from, int to, int... rest) {
        int[] bytes = new int[rest.length + 3];
        bytes[0] = kind;
        bytes[1] = from == -1 ? 255 : from;
        bytes[2] = kind == Air.REPLY ? 16 + to : to;
        System.arraycopy(rest, 0, bytes, 3, rest.length);
        Check.due(what + " length", x.wire(Air.place(x, kind, from, to)), bytes.length + 4);
        bytesAre(what, x, bytes);
    }

    private static void promise23() {
        OrderedWorks x = new OrderedWorks(1, 0);
        Check.due("nothing there", x.wire(0), -1);
        x.request(3, 1, 7, 0x01020304);
        wireIs("STAMPED", x, Air.STAMPED, -1, 4, 1, 1, 3, 1, 1, 7, 1, 2, 3, 4);
        Check.due("below 0", x.wire(-1), -1);
        Check.due("behind the last", x.wire(5), -1);
        Check.due("the output stays", x.output(2), 4);
        x.deliver(0);
        x.deliver(1);
        wireIs("REPLY of the leader", x, Air.REPLY, 0, 3, 0, 1, 1, 1, 1, 0, 0, 0, 0);
        wireIs("REPLY of another one", x, Air.REPLY, 1, 3, 0, 1, 1, 1, 0);
        x.request(0, 0, 7, -2);
        Air.lose(x, Air.STAMPED, -1, 2);
        Air.deliver(x, Air.STAMPED, -1, 2);
        wireIs("LOOKUP", x, Air.LOOKUP, 2, 0, 0, 1, 1);
        Air.deliver(x, Air.LOOKUP, 2, 0);
        wireIs("FOUND", x, Air.FOUND, 0, 2, 0, 1, 1, 3, 1, 1, 7, 1, 2, 3, 4);
        Air.deliver(x, Air.FOUND, 0, 2);
        Air.deliver(x, Air.STAMPED, -1, 0);
        wireIs("an answer", x, Air.REPLY, 0, 0, 0, 1, 2, 1, 1, 1, 2, 3, 4);
        Air.deliver(x, Air.STAMPED, -1, 1);
        Air.clear(x);
        x.request(1, 0, 0, 0);
        Air.clear(x);
        x.again(1);
        Air.deliver(x, Air.STAMPED, -1, 0);
        wireIs("GAP COMMIT", x, Air.GAP_COMMIT, 0, 1, 0, 1, 3);
        Air.deliver(x, Air.GAP_COMMIT, 0, 1);
        wireIs("GAP REPLY", x, Air.GAP_REPLY, 1, 0, 0, 1, 3);
        Air.deliver(x, Air.GAP_COMMIT, 0, 2);
        Air.deliver(x, Air.GAP_REPLY, 1, 0);
        Air.deliver(x, Air.GAP_REPLY, 2, 0);
        Air.deliver(x, Air.STAMPED, -1, 1);
        Air.deliver(x, Air.STAMPED, -1, 2);
        Air.clear(x);
        x.sync(0);
        int[] sync = {0, 1, 4, 1, 3, 1, 1, 7, 1, 2, 3, 4, 1, 0, 1, 0, 7, 255, 255, 255, 254, 0,
            1, 1, 1, 0, 0, 0, 0, 0, 0};
        wireIs("SYNC", x, Air.SYNC, 0, 2, sync);
        Air.deliver(x, Air.SYNC, 0, 1);
        Air.deliver(x, Air.SYNC, 0, 2);
        wireIs("SYNC REPLY", x, Air.SYNC_REPLY, 2, 0, 0, 1, 4);
        Air.deliver(x, Air.SYNC_REPLY, 1, 0);
        Air.deliver(x, Air.SYNC_REPLY, 2, 0);
        wireIs("POINT", x, Air.POINT, 0, 4, 0, 1, 4);
        x.tick(3);
        wireIs("PING", x, Air.PING, 0, 3, 0, 1);
        changes(x);
    }

    private static void changes(OrderedWorks x) {
        x.install();
        x.again(1);
        Air.clear(x);
        x.again(1);
        Air.deliver(x, Air.STAMPED, -1, 1);
        wireIs("TURN", x, Air.TURN, 1, 4, 0, 2);
        wireIs("TURNED", x, Air.TURNED, 1, 0, 0, 2, 0, 1, 0, 4, 1, 3, 1, 1, 7, 1, 2, 3, 4,
            1, 0, 1, 0, 7, 255, 255, 255, 254, 0, 1, 1, 1, 0, 0, 0, 0, 0, 0);
        Air.deliver(x, Air.TURN, 1, 4);
        Air.deliver(x, Air.TURNED, 1, 0);
        wireIs("an empty log", x, Air.TURNED, 4, 0, 0, 2, 0, 1, 0, 0);
        Air.deliver(x, Air.TURNED, 4, 0);
        wireIs("START", x, Air.START, 0, 3, 0, 2, 4, 4, 1, 3, 1, 1, 7, 1, 2, 3, 4,
            1, 0, 1, 0, 7, 255, 255, 255, 254, 0, 1, 1, 1, 0, 0, 0, 0, 0, 0);
    }

    /** Numbers of two and three bytes. */
    private static void longNumbers() {
        OrderedWorks x = new OrderedWorks(0, 0);
        x.request(0, 0, 0, 0);
        for (int i = 2; i <= 16384; i++) {
            Air.clear(x);
            x.again(0);
            if (i == 127) {
                wireIs("127", x, 0, -1, 0, 1, 127, 0, 1, 0, 0, 0, 0, 0, 0);
            } else if (i == 128) {
                wireIs("128", x, 0, -1, 0, 1, 128, 1, 0, 1, 0, 0, 0, 0, 0, 0);
            } else if (i == 300) {
                wireIs("300", x, 0, -1, 0, 1, 172, 2, 0, 1, 0, 0, 0, 0, 0, 0);
            } else if (i == 16383) {
                wireIs("16383", x, 0, -1, 0, 1, 255, 127, 0, 1, 0, 0, 0, 0, 0, 0);
            } else if (i == 16384) {
                wireIs("16384", x, 0, -1, 0, 1, 128, 128, 1, 0, 1, 0, 0, 0, 0, 0, 0);
            }
        }
    }

    private static void promise24() {
        OrderedWorks x = new OrderedWorks(0, 0);
        Check.thrown("-1", IndexOutOfBoundsException.class, () -> x.image(-1));
        Check.thrown("N", IndexOutOfBoundsException.class, () -> x.image(3));
        for (int i = 0; i < 26; i++) {
            Air.whole(x, i % 4, i % 3, i % 8, 0x11223300 + i);
        }
        x.sync(0);
        Air.settle(x);
        x.install();
        Air.whole(x, 0, 1, 1, 1);
        Air.settle(x);
        x.again(0);
        Air.clear(x);
        x.again(0);
        Air.settle(x);
        x.sync(0);
        Air.deliver(x, Air.SYNC, 0, 2);
        Air.clear(x);
        x.suspect(2);
        int length = x.replica(2, 5);
        int[] want = new int[2560];
        head(want, new int[] {79, 82, 87, 75, 2, 2, 0, 0},
            new int[] {1, 2, 0, 2, x.replica(2, 4), 26, 0, length});
        for (int slot = 1; slot <= length; slot++) {
            int at = 512 * (1 + (slot - 1) / 25) + 16 * ((slot - 1) % 25);
            if (x.entry(2, slot, 0) == 1) {
                int[] bytes = {1, x.entry(2, slot, 1), x.entry(2, slot, 3), x.entry(2, slot, 4)};
                System.arraycopy(bytes, 0, want, at, 4);
                word(want, at + 4, x.entry(2, slot, 2));
                word(want, at + 8, x.entry(2, slot, 5));
            }
        }
        for (int block = 0; block < 5; block++) {
            word(want, 512 * block + 508, sum(java.util.Arrays.copyOfRange(want, 512 * block, 512 * block + 508)));
        }
        Check.due("its length", x.image(2), 2560);
        for (int i = 0; i < 2560; i++) {
            Check.due("image byte " + i, x.output(i), want[i]);
        }
        Check.due("ends", x.output(2560), -1);
        Check.yes("a NOTHING was among them", x.entry(2, length - 1, 0) == 0 || x.entry(2, length, 0) == 0);
        x.down(2);
        Check.due("down or not", x.image(2), 2560);
        Check.due("wire is shorter", x.wire(0), 9);
        Check.due("and ends", x.output(9), -1);
    }

    private static void head(int[] to, int[] bytes, int[] words) {
        System.arraycopy(bytes, 0, to, 0, bytes.length);
        for (int i = 0; i < words.length; i++) {
            word(to, 8 + 4 * i, words[i]);
        }
    }

    private static void word(int[] to, int at, int value) {
        for (int i = 0; i < 4; i++) {
            to[at + i] = value >>> 24 - 8 * i & 255;
        }
    }

    private static void promise25() {
        OrderedWorks x = new OrderedWorks(0, 0);
        Check.due("none yet", x.output(0), -1);
        x.request(0, 0, 0, -1);
        x.wire(2);
        Check.due("first", x.output(0), 0);
        Check.due("0 .. 255", x.output(1), 255);
        Check.due("last but the sum", x.output(12), 255);
        Check.due("behind", x.output(17), -1);
        Check.due("below 0", x.output(-1), -1);
        Check.due("far", x.output(Integer.MAX_VALUE), -1);
        Check.due("far", x.output(Integer.MIN_VALUE), -1);
    }

    private static void promise26() {
        OrderedWorks x = new OrderedWorks(0, 0);
        Check.yes("-1", !x.put(0, -1));
        Check.yes("9", !x.put(0, 9));
        Check.yes("0", x.put(-1, 0));
        Check.yes("far", !x.put(-1, Integer.MIN_VALUE) && !x.put(-1, Integer.MAX_VALUE));
        Check.due("none came", fault(x, 1), 0);
        Check.yes("8", x.put(0x0CFF_0005_0000_0000L, 8) && x.put(0, 1));
        Check.due("the highest first: PING by the sequencer to 0 of (5, 0) with sum 0", fault(x, 5), 5);
        Check.yes("3", x.put(0xFFFF_FFFF_FF0C_0710L, 3));
        Check.due("the lowest three: a sender 7", fault(x, 2), 1);
        for (int i = 0; i < 187; i++) {
            Check.yes("up to 1496", x.put(0, 8));
        }
        Check.yes("1504", !x.put(0, 8));
        Check.yes("1501", !x.put(0, 5));
        Check.yes("1500", x.put(0x0C, 4));
        Check.yes("1501", !x.put(0, 1));
        Check.yes("1500 and 0", x.put(0, 0));
        fault(x, 5);
        Check.yes("empty again", x.put(0, 8));
    }

    /** The place of the fault that is met, which is to be of that kind. */
    private static int fault(OrderedWorks x, int kind) {
        Check.thrown("untake", IllegalArgumentException.class, () -> x.untake());
        Check.due("fault", x.fault(0), kind);
        Check.due("none is told", x.tolds() + x.told(0) + x.told(1), 0);
        return x.fault(1);
    }

    private static void promise27() {
        OrderedWorks x = new OrderedWorks(0, 0);
        x.put(1, 1);
        Check.due("an empty output", x.take(0, 0), 0);
        Check.due("an empty tape", fault(x, 1), 0);
        x.request(0, 0, 0, 0);
        x.wire(0);
        x.put(1, 8);
        Check.due("instead of what was there", x.take(-1, 0), 17);
        Check.due("as it is", x.untake(), 0);
        int[][] none = {{17, 0}, {-1, 3}, {3, 8}, {3, -1}, {Integer.MAX_VALUE, 1}, {0, Integer.MIN_VALUE}};
        for (int[] p : none) {
            Check.due("no bit is turned", x.take(p[0], p[1]), 17);
            Check.due("as it is", x.untake(), 0);
        }
        for (int i = 0; i < 17; i++) {
            for (int bit = 0; bit < 8; bit++) {
                x.take(i, bit);
                Check.thrown("a bit is turned", IllegalArgumentException.class, () -> x.untake());
            }
        }
        x.take(1, 3);
        Check.due("bit 3 of the sender", fault(x, 2), 1);
        x.take(16, 0);
        Check.due("the last", fault(x, 5), 13);
        Check.due("the output stays", x.output(1), 255);
        x.image(0);
        Check.due("the first 1500", x.take(1499, 7), 1500);
        Check.yes("no more fits", !x.put(0, 1));
        Check.due("an image is no message", fault(x, 2), 0);
        Check.due("all of the output stays", x.output(2559) >= 0 ? 1 : 0, 1);
    }

    private static void tape(OrderedWorks x, int... bytes) {
        for (int b : bytes) {
            x.put(b, 1);
        }
    }

    private static void summed(OrderedWorks x, int... bytes) {
        tape(x, bytes);
        x.put(sum(bytes), 4);
    }

    private static void promise28() {
        OrderedWorks x = new OrderedWorks(0, 0);
        int[] whole = {9, 6, 2, 1, 2, 3, 4, 5, 2, 0, 1, 3, 1, 2, 7, 255, 255, 255, 255};
        for (int length = 0; length < whole.length; length++) {
            tape(x, java.util.Arrays.copyOf(whole, length));
            Check.due("it ends too early, at its length", fault(x, 1), length);
        }
        for (int sumBytes = 0; sumBytes < 4; sumBytes++) {
            tape(x, whole);
            x.put((long) sum(whole) >> 8 * (4 - sumBytes), sumBytes);
            Check.due("a part of the sum is too early, too", fault(x, 1), whole.length + sumBytes);
        }
        summed(x, whole);
        Check.due("whole", x.untake(), 9);
        Check.due("the tape is empty then", fault(x, 1), 0);
    }

    private static void goodTapes() {
        OrderedWorks x = new OrderedWorks(0, 0);
        int[][] good = {
            {0, 255, 19, 0, 0, 3, 0, 2, 7, 0, 0, 0, 0}, {1, 0, 0, 1, 1, 1}, {2, 6, 6, 0, 0, 0, 0, 0, 0, 0, 9, 9, 9, 9},
            {3, 0, 16, 1, 1, 1}, {4, 0, 1, 1, 1, 1}, {5, 0, 1, 1, 1, 0}, {6, 0, 1, 1, 1, 1}, {7, 0, 1, 1, 1, 1},
            {8, 0, 1, 1, 1}, {9, 0, 1, 1, 1, 1, 1, 1, 1, 0}, {10, 0, 1, 1, 1, 1, 1, 0}, {11, 0, 1, 1, 1, 1, 1, 0},
            {11, 0, 1, 1, 1, 1, 1, 1, 5, 6, 7, 8}, {12, 0, 1, 1, 1},
            {12, 0, 1, 255, 255, 255, 255, 7, 128, 128, 128, 128, 1},
        };
        for (int[] bytes : good) {
            summed(x, bytes);
            Check.due("good", Check.told(() -> x.untake()).equals(Integer.toString(bytes[0])) ? 1 : 0, 1);
            Check.due("no fault", x.fault(0), 0);
            Check.due("no place", x.fault(1), -1);
        }
        int[] full = new int[106];
        full[0] = 5;
        full[5] = 100;
        summed(x, full);
        Check.due("100 entries", x.untake(), 5);
        Check.due("all told", x.tolds(), 106);
        full[5] = 101;
        summed(x, full);
        Check.due("101 entries", fault(x, 4), 5);
        summed(x, 10, 0, 0, 1, 1, 1, 128, 1, 0);
        Check.due("128 entries", fault(x, 4), 6);
    }

    private static void badBytes() {
        OrderedWorks x = new OrderedWorks(0, 0);
        // The place that is due, then the bytes.
        int[][] bad = {
            {0, 13}, {0, 255}, {1, 12, 7}, {1, 12, 254}, {1, 12, 16}, {2, 12, 0, 7}, {2, 12, 0, 15}, {2, 12, 0, 20},
            {2, 12, 0, 255}, {5, 0, 0, 0, 1, 1, 4}, {7, 0, 0, 0, 1, 1, 0, 1, 3}, {8, 0, 0, 0, 1, 1, 0, 1, 2, 8},
            {6, 2, 0, 0, 1, 1, 1, 4}, {7, 11, 0, 0, 1, 1, 1, 1, 2}, {6, 5, 0, 0, 1, 1, 1, 2},
            {7, 5, 0, 0, 1, 1, 1, 1, 4}, {9, 5, 0, 0, 1, 1, 1, 1, 0, 0, 3},
        };
        for (int[] b : bad) {
            tape(x, java.util.Arrays.copyOfRange(b, 1, b.length));
            Check.due("a byte that can't be", fault(x, 2), b[0]);
        }
    }

    private static void badNumbers() {
        OrderedWorks x = new OrderedWorks(0, 0);
        int[][] bad = {
            {128, 0}, {255, 0}, {128, 128, 0}, {255, 255, 255, 255, 8}, {255, 255, 255, 255, 127},
            {128, 128, 128, 128, 0}, {128, 128, 128, 128, 128}, {255, 255, 255, 255, 255},
            {128, 128, 128, 128, 128, 1}, {255, 255, 255, 255, 255, 1},
        };
        for (int[] b : bad) {
            tape(x, 12, 0, 0, 5);
            tape(x, b);
            Check.due("a bad number, at its first byte", fault(x, 3), 4);
        }
        tape(x, 12, 0, 0, 5, 255, 255, 255, 255);
        Check.due("four bytes and then the end", fault(x, 1), 8);
        tape(x, 5, 0, 0, 1, 1, 228, 128, 0);
        Check.due("a log's length, too", fault(x, 3), 5);
        tape(x, 5, 0, 0, 1, 1, 229, 0);
        Check.due("ahead of its being above 100", fault(x, 3), 5);
    }

    private static void badEnds() {
        OrderedWorks x = new OrderedWorks(0, 0);
        int[] ping = {12, 0, 1, 2, 3};
        tape(x, ping);
        x.put(sum(ping) ^ 1, 4);
        Check.due("another sum", fault(x, 5), 5);
        tape(x, ping);
        x.put(sum(ping) ^ 0x80000000, 4);
        x.put(0, 1);
        Check.due("another sum, ahead of bytes behind", fault(x, 5), 5);
        summed(x, ping);
        x.put(0, 1);
        Check.due("bytes behind", fault(x, 6), 9);
        summed(x, ping);
        x.put(0, 8);
        Check.due("at the first of them", fault(x, 6), 9);
    }

    private static void promise29() {
        OrderedWorks x = new OrderedWorks(0, 0);
        Check.due("none yet", x.fault(0), 0);
        Check.due("none yet", x.fault(1), -1);
        x.put(13, 1);
        Check.due("while it is on the tape", x.fault(0), 0);
        Check.due("at 0", fault(x, 2), 0);
        Check.due("place", x.fault(1), 0);
        Check.due("another what", x.fault(2), -1);
        Check.due("another what", x.fault(-1), -1);
        summed(x, 8, 1, 2, 3, 4);
        Check.due("a good one", x.untake(), 8);
        Check.due("without", x.fault(0), 0);
        Check.due("without", x.fault(1), -1);
    }

    private static void promise30and31() {
        OrderedWorks x = new OrderedWorks(0, 0);
        Check.due("none yet", x.tolds(), 0);
        Check.due("none yet", x.told(0), 0);
        summed(x, 9, 6, 18, 129, 1, 2, 3, 4, 5, 3, 1, 3, 172, 2, 2, 7, 255, 255, 255, 254, 0,
            1, 0, 1, 1, 0, 128, 0, 0, 0);
        Check.due("TURNED", x.untake(), 9);
        int[] due = {9, 6, 18, 129, 2, 3, 4, 5, 3, 1, 3, 300, 2, 7, -2, 0, 1, 0, 1, 1, 0, Integer.MIN_VALUE};
        Check.due("how many", x.tolds(), due.length);
        for (int i = 0; i < due.length; i++) {
            Check.due("told " + i, x.told(i), due[i]);
        }
        Check.due("behind", x.told(due.length), 0);
        Check.due("below 0", x.told(-1), 0);
        Check.due("far", x.told(Integer.MAX_VALUE), 0);
        summed(x, 11, 0, 17, 0, 1, 5, 9, 0);
        x.untake();
        Check.due("a REPLY without an answer", x.tolds(), 8);
        summed(x, 11, 0, 17, 0, 1, 5, 9, 1, 0, 0, 1, 0);
        x.untake();
        Check.due("and with one", x.tolds(), 9);
        Check.due("the answer", x.told(8), 256);
        fault(x, 1);
        Check.due("none after a fault", x.tolds(), 0);
        Check.due("none after a fault", x.told(8), 0);
    }
}
