/** Counts answers that are not the ones that are due; a test ends with code 1 if there was one. */
final class Check {
    interface Call {
        void run();
    }

    private static int wrong;

    private Check() {
    }

    static void same(String what, long got, long due) {
        if (got != due) {
            fault(what + " answered " + got + ", due is " + due);
        }
    }

    static void same(String what, boolean got, boolean due) {
        same(what, got ? 1 : 0, due ? 1 : 0);
    }

    static void same(String what, String got, String due) {
        if (!got.equals(due)) {
            fault(what + " answered " + got + ", due is " + due);
        }
    }

    static void noSession(String what, Call call) {
        throwing(what, call, IndexOutOfBoundsException.class);
    }

    static void outside(String what, Call call) {
        throwing(what, call, IndexOutOfBoundsException.class);
    }

    static void badArgument(String what, Call call) {
        throwing(what, call, IllegalArgumentException.class);
    }

    static void badState(String what, Call call) {
        throwing(what, call, IllegalStateException.class);
    }

    /** Whether no fault was found as yet. */
    static boolean clean() {
        return wrong == 0;
    }

    static void fault(String text) {
        wrong++;
        System.out.println(text);
    }

    static void end() {
        System.out.println(wrong == 0 ? "all answers are as due" : wrong + " answers are not as due");
        if (wrong != 0) {
            System.exit(1);
        }
    }

    // The class itself is compared: what the machine throws are subclasses of what the document names.
    private static void throwing(String what, Call call, Class<?> due) {
        String got = "nothing";
        try {
            call.run();
        } catch (RuntimeException e) {
            got = e.getClass().getName();
        }
        if (!got.equals(due.getName())) {
            fault(what + " throws " + got + ", due is " + due.getName());
        }
    }
}
