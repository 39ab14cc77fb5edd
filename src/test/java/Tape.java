import java.util.ArrayList;
import java.util.List;
import java.util.zip.CRC32;

/** Bytes for the tape and of the output, summed up by the library's own CRC. */
final class Tape {
    private final List<Integer> bytes = new ArrayList<>();

    static Tape of(int... first) {
        return new Tape().and(first);
    }

    Tape and(int... more) {
        for (int b : more) {
            bytes.add(b);
        }
        return this;
    }

    Tape word(int value) {
        return and(value >>> 24, value >>> 16 & 255, value >>> 8 & 255, value & 255);
    }

    int length() {
        return bytes.size();
    }

    int at(int i) {
        return bytes.get(i);
    }

    /** Only the first of them. */
    Tape cut(int length) {
        Tape tape = new Tape();
        tape.bytes.addAll(bytes.subList(0, length));
        return tape;
    }

    int sum() {
        CRC32 crc = new CRC32();
        for (int b : bytes) {
            crc.update(b);
        }
        return (int) crc.getValue();
    }

    /** With its SUM behind it. */
    Tape summed() {
        return cut(bytes.size()).word(sum());
    }

    void put(OrderedWorks x) {
        for (int b : bytes) {
            x.put(b, 1);
        }
    }

    /** The tape holds just these; untake() has to meet that fault there. */
    void faulty(String what, OrderedWorks x, int fault, int place) {
        put(x);
        Check.thrown(what, IllegalArgumentException.class, () -> x.untake());
        Check.due(what + ": the FAULT", x.fault(0), fault);
        Check.due(what + ": its place", x.fault(1), place);
        Check.due(what + ": none is TOLD", x.tolds(), 0);
        Check.due(what + ": none is TOLD", x.told(0), 0);
    }

    /** The tape holds just these; untake() has to read them. */
    void good(String what, OrderedWorks x) {
        put(x);
        Check.text(what, Check.told(() -> x.untake()), Integer.toString(bytes.get(0)));
        Check.due(what + ": no FAULT", x.fault(0), 0);
        Check.due(what + ": no place", x.fault(1), -1);
    }

    /** The output is just these. */
    void output(String what, OrderedWorks x) {
        for (int i = 0; i < bytes.size(); i++) {
            Check.due(what + ", byte " + i, x.output(i), bytes.get(i));
        }
        Check.due(what + " ends", x.output(bytes.size()), -1);
    }
}
