/** All that can be seen of an object, as one text. */
final class Seen {
    private static final int REPLICA_WHATS = 11;
    private static final int ABOUT_WHATS = 9;
    private static final int LATER_TICKS = 40;

    private Seen() { }

    /** What is seen by calls that change nothing. */
    static String now(OrderedWorks x) {
        StringBuilder text = new StringBuilder();
        numbers(text, x);
        for (int r = 0; x.replica(r, 0) != OrderedWorks.NONE; r++) {
            replica(text, x, r);
        }
        text.append("\noutput");
        for (int i = 0; x.output(i) != OrderedWorks.NONE; i++) {
            text.append(' ').append(x.output(i));
        }
        told(text, x);
        return text.append("\nbroken ").append(x.broken()).toString();
    }

    /** Then what the tape holds, the bytes of all messages and images, and what comes of it in time: it is used up. */
    static String all(OrderedWorks x) {
        StringBuilder text = new StringBuilder(now(x));
        text.append("\nuntake ").append(Check.told(() -> x.untake()));
        told(text, x);
        for (int k = 0; k < x.about(0); k++) {
            text.append("\nwire").append(k).append(' ').append(x.wire(k));
            output(text, x);
        }
        for (int r = 0; x.replica(r, 0) != OrderedWorks.NONE; r++) {
            text.append("\nimage").append(r).append(' ').append(x.image(r));
            output(text, x);
        }
        for (int i = 0; i < LATER_TICKS; i++) {
            text.append("\nlater ").append(x.tick(1)).append(' ').append(x.flow(i % 3 == 0 ? 40 : 2));
            numbers(text, x);
            for (int r = 0; x.replica(r, 0) != OrderedWorks.NONE; r++) {
                state(text, x, r);
            }
        }
        return text.toString();
    }

    private static void numbers(StringBuilder text, OrderedWorks x) {
        text.append("\nabout");
        for (int what = 0; what < ABOUT_WHATS; what++) {
            text.append(' ').append(x.about(what));
        }
        for (int c = 0; c < 4; c++) {
            text.append("\nclient ").append(c);
            for (int what = 0; what < 5; what++) {
                text.append(' ').append(x.client(c, what));
            }
            text.append(' ').append(x.answer(c));
        }
        text.append("\nair");
        for (int k = 0; k < x.about(0); k++) {
            for (int what = 0; what < 4; what++) {
                text.append(what == 0 ? ' ' : '/').append(x.message(k, what));
            }
        }
    }

    private static void state(StringBuilder text, OrderedWorks x, int r) {
        text.append("\nreplica ").append(r);
        for (int what = 0; what < REPLICA_WHATS; what++) {
            text.append(' ').append(x.replica(r, what));
        }
    }

    private static void replica(StringBuilder text, OrderedWorks x, int r) {
        state(text, x, r);
        text.append("\nentries");
        for (int slot = 1; slot <= x.replica(r, 5); slot++) {
            for (int what = 0; what < 6; what++) {
                text.append(what == 0 ? ' ' : '/').append(x.entry(r, slot, what));
            }
        }
        text.append("\nwords");
        for (int key = 0; key < 8; key++) {
            text.append(' ').append(x.word(r, key));
        }
    }

    private static void output(StringBuilder text, OrderedWorks x) {
        for (int i = 0; x.output(i) != OrderedWorks.NONE; i++) {
            text.append(' ').append(x.output(i));
        }
    }

    private static void told(StringBuilder text, OrderedWorks x) {
        text.append("\nfault ").append(x.fault(0)).append(' ').append(x.fault(1)).append("\ntold ").append(x.tolds());
        for (int i = 0; i < x.tolds(); i++) {
            text.append(' ').append(x.told(i));
        }
    }
}
