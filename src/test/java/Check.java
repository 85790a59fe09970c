/** Counts what the tests of one run compare, and tells what is wrong. */
final class Check {
    private static int right = 0;
    private static int wrong = 0;

    private Check() {
    }

    static void same(String what, long got, long want) {
        if (got == want) {
            right++;
        } else {
            fail(what + " answered " + got + ", due is " + want);
        }
    }

    static void same(String what, String got, String want) {
        if (got.equals(want)) {
            right++;
        } else {
            fail(what + " answered " + got + ", due is " + want);
        }
    }

    static void throwsArgument(String what, Runnable call) {
        same(what, thrownBy(call), "IllegalArgumentException");
    }

    static void throwsState(String what, Runnable call) {
        same(what, thrownBy(call), "IllegalStateException");
    }

    static void throwsPlace(String what, Runnable call) {
        same(what, thrownBy(call), "IndexOutOfBoundsException");
    }

    private static String thrownBy(Runnable call) {
        try {
            call.run();
            return "nothing thrown";
        } catch (RuntimeException e) {
            return e.getClass().getSimpleName();
        }
    }

    static void fail(String what) {
        wrong++;
        if (wrong <= 50) {
            System.out.println("wrong: " + what);
        }
    }

    static boolean isAllRight() {
        return wrong == 0;
    }

    /** Ends the run of a test, with exit code 1 if anything was wrong. */
    static void end() {
        System.out.println(right + " answers right, " + wrong + " wrong");
        if (wrong != 0 || right == 0) {
            System.exit(1);
        }
    }
}
