/** Counts answers that are not as due; a test ends with end(). */
final class Check {
    private static final int TOLD_MOST = 40;
    private static long wrong = 0;
    private static long looked = 0;
    /** The sentence that is tested, told with what is wrong. */
    private static String sentence = "";

    interface Call {
        long answer();
    }

    interface Act {
        void go();
    }

    private Check() { }

    static void of(String words) {
        sentence = words;
    }

    static void due(String what, long got, long want) {
        looked++;
        if (got != want) {
            fault(what + " answered " + got + ", due is " + want);
        }
    }

    static void yes(String what, boolean got) {
        due(what, got ? 1 : 0, 1);
    }

    static void text(String what, String got, String want) {
        looked++;
        if (!got.equals(want)) {
            fault(what + " is \"" + got + "\", due is \"" + want + "\"");
        }
    }

    static void fault(String text) {
        wrong++;
        if (wrong <= TOLD_MOST) {
            System.out.println(sentence.isEmpty() ? text : "[" + sentence + "] " + text);
        }
    }

    /** Exactly that class, as the document names it. */
    static void thrown(String what, Class<?> want, Act act) {
        String got = "nothing";
        try {
            act.go();
        } catch (RuntimeException e) {
            got = e.getClass().getName();
        }
        looked++;
        if (!got.equals(want.getName())) {
            fault(what + " threw " + got + ", due is " + want.getName());
        }
    }

    /** An answer, or the name of what was thrown. */
    static String told(Call call) {
        try {
            return Long.toString(call.answer());
        } catch (RuntimeException e) {
            return e.getClass().getName();
        }
    }

    static long wrong() {
        return wrong;
    }

    static void end() {
        System.out.println(wrong == 0 ? looked + " answers are as due" : wrong + " of " + looked + " are not as due");
        if (wrong != 0 || looked == 0) {
            System.exit(1);
        }
    }
}
