import java.util.function.IntConsumer;

/** Counts what the tests of one run compare, and tells what is wrong. */
final class Check {
    private static int right = 0;
    private static int wrong = 0;
    private static String topic = "";
    private static int comparedBefore = 0;

    private Check() {
    }

    /** Names what the comparisons from here on are about; each topic must have at least one. */
    static void about(String next) {
        if (!topic.isEmpty() && right + wrong == comparedBefore) {
            fail("nothing was compared");
        }
        topic = next.isEmpty() ? "" : next + ": ";
        comparedBefore = right + wrong;
    }

    static void same(String what, long got, long want) {
        if (got == want) {
            right++;
        } else {
            fail(what + " answered " + got + ", due is " + want);
        }
    }

    static void same(String what, String got, String want) {
        if (got.equals(want)) {
            right++;
        } else {
            fail(what + " answered " + got + ", due is " + want);
        }
    }

    static void throwsArgument(String what, Runnable call) {
        same(what, thrownBy(call), "IllegalArgumentException");
    }

    static void throwsState(String what, Runnable call) {
        same(what, thrownBy(call), "IllegalStateException");
    }

    static void throwsPlace(String what, Runnable call) {
        same(what, thrownBy(call), "IndexOutOfBoundsException");
    }

    /** The call throws for each of these arguments. */
    static void refusesArguments(int[] wrongs, IntConsumer call) {
        for (int wrong : wrongs) {
            throwsArgument("with " + wrong, () -> call.accept(wrong));
        }
    }

    /** The call throws for each of these numbers and places. */
    static void refusesPlaces(int[] wrongs, IntConsumer call) {
        for (int wrong : wrongs) {
            throwsPlace("with " + wrong, () -> call.accept(wrong));
        }
    }

    private static String thrownBy(Runnable call) {
        try {
            call.run();
            return "nothing thrown";
        } catch (RuntimeException e) {
            return e.getClass().getSimpleName();
        }
    }

    static void fail(String what) {
        wrong++;
        if (wrong <= 50) {
            System.out.println("wrong: " + topic + what);
        }
    }

    static boolean isAllRight() {
        return wrong == 0;
    }

    /** Ends the run of a test, with exit code 1 if anything was wrong. */
    static void end() {
        about("");
        System.out.println(right + " answers right, " + wrong + " wrong");
        if (wrong != 0 || right == 0) {
            System.exit(1);
        }
    }
}
