/** Counts what held and prints what did not. */
final class Check {
    /** A call of the face, so that its answer and what it throws can be told alike. */
    interface Call {
        long answer();
    }

    private static final int MOST_PRINTED = 40;

    private int passed = 0;
    private int failed = 0;

    /** What a call answers as text; throws.Name when it throws. */
    static String told(Call call) {
        try {
            return Long.toString(call.answer());
        } catch (RuntimeException thrown) {
            return "throws." + thrown.getClass().getSimpleName();
        }
    }

    void due(String what, Call call, long due) {
        same(what, told(call), Long.toString(due));
    }

    void holds(String what, boolean got) {
        same(what, Boolean.toString(got), "true");
    }

    void holdsNot(String what, boolean got) {
        same(what, Boolean.toString(got), "false");
    }

    void illegalArgument(String what, Call call) {
        same(what, told(call), "throws.IllegalArgumentException");
    }

    void illegalState(String what, Call call) {
        same(what, told(call), "throws.IllegalStateException");
    }

    void noSuchElement(String what, Call call) {
        same(what, told(call), "throws.NoSuchElementException");
    }

    void same(String what, String got, String due) {
        if (got.equals(due)) {
            passed++;
            return;
        }
        failed++;
        if (failed <= MOST_PRINTED) {
            System.out.println(what + ": " + got + ", due is " + due);
        }
    }

    boolean hasFailed() {
        return failed > 0;
    }

    int countFailed() {
        return failed;
    }

    int countAll() {
        return passed + failed;
    }

    /** Prints the sum of all and ends the program with exit code 1 if something did not hold. */
    void end(String name) {
        System.out.println(name + ": " + passed + " checks held, " + failed + " did not");
        if (failed > 0 || passed == 0) {
            System.exit(1);
        }
    }
}
