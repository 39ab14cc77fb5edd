/** Counts answers that are not as due; a test ends with end(). */
final class Check {
    private static long wrong = 0;
    private static long looked = 0;

    interface Call {
        long answer();
    }

    interface Act {
        void go();
    }

    private Check() { }

    static void due(String what, long got, long want) {
        looked++;
        if (got != want) {
            wrong++;
            if (wrong <= 40) {
                System.out.println(what + " answered " + got + ", due is " + want);
            }
        }
    }

    static void yes(String what, boolean got) {
        due(what, got ? 1 : 0, 1);
    }

    /** Exactly that class, as the document names it. */
    static void thrown(String what, Class<?> want, Act act) {
        String got = "nothing";
        try {
            act.go();
        } catch (RuntimeException e) {
            got = e.getClass().getName();
        }
        looked++;
        if (!got.equals(want.getName())) {
            wrong++;
            System.out.println(what + " threw " + got + ", due is " + want.getName());
        }
    }

    /** An answer, or the name of what was thrown. */
    static String told(Call call) {
        try {
            return Long.toString(call.answer());
        } catch (RuntimeException e) {
            return e.getClass().getName();
        }
    }

    static long wrong() {
        return wrong;
    }

    static void end() {
        System.out.println(wrong == 0 ? looked + " answers are as due" : wrong + " of " + looked + " are not as due");
        if (wrong != 0 || looked == 0) {
            System.exit(1);
        }
    }
}
