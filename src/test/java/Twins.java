/**
 * Two objects that were made by the same calls. One of them gets a call that should change nothing: then they must
 * be alike in all that is seen of them, and in all that comes later.
 */
final class Twins {
    interface Maker {
        OrderedWorks make();
    }

    interface Use {
        void with(OrderedWorks x);
    }

    private Twins() { }

    /** The call throws exactly that, and all stands as it stood before. */
    static void refused(String what, Class<?> want, Maker maker, Use call) {
        OrderedWorks x = maker.make();
        Check.thrown(what, want, () -> call.with(x));
        alike(what, x, maker.make());
    }

    /** The call answers, and all stands as it stood before. */
    static void unchanged(String what, Maker maker, Use call) {
        OrderedWorks x = maker.make();
        call.with(x);
        alike(what, x, maker.make());
    }

    /** Both are used up by it. */
    static void alike(String what, OrderedWorks x, OrderedWorks y) {
        String[] got = Seen.all(x).split("\n");
        String[] want = Seen.all(y).split("\n");
        Check.due(what + ": as much is seen", got.length, want.length);
        for (int i = 0; i < got.length && i < want.length; i++) {
            if (!got[i].equals(want[i])) {
                Check.text(what + ": what stands", got[i], want[i]);
                return;
            }
        }
    }
}
