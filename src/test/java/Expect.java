/** Compares what calls answer, or throw, with what is due, and counts. */
final class Expect {
    interface Call {
        Object run();
    }

    private static int passed = 0;
    private static int failed = 0;

    private Expect() {
    }

    /** The answer as a text; the name of the exception, if the call throws one. */
    static String answer(Call call) {
        try {
            return String.valueOf(call.run());
        } catch (RuntimeException e) {
            return e.getClass().getSimpleName();
        }
    }

    static void due(String call, Object want, Call run) {
        String got = answer(run);
        if (got.equals(String.valueOf(want))) {
            passed++;
        } else {
            failed++;
            System.out.println(call + " answered " + got + ", due is " + want);
        }
    }

    static void noBoat(String call, Call run) {
        due(call, "IndexOutOfBoundsException", run);
    }

    static void wrongNumber(String call, Call run) {
        due(call, "IllegalArgumentException", run);
    }

    static void notPossible(String call, Call run) {
        due(call, "IllegalStateException", run);
    }

    static void noSuchElement(String call, Call run) {
        due(call, "NoSuchElementException", run);
    }

    static void end() {
        System.out.println(passed + " passed, " + failed + " failed");
        if (failed > 0) {
            System.exit(1);
        }
    }
}
