/** Counts what holds, and prints what does not. */
final class Checks {
    /** A call of the face; what it answers is told as a number (a boolean as 1 or 0). */
    interface Call {
        long answer();
    }

    static final long NO_ANSWER = Long.MIN_VALUE;

    private int passed;
    private int failed;

    void same(String what, long due, long got) {
        note(due == got, what + ": due is " + due + ", got " + got);
    }

    void holds(String what, boolean holds) {
        note(holds, what);
    }

    void answers(String what, String due, Call call) {
        String got = outcome(call);
        note(due.equals(got), what + ": due is " + due + ", got " + got);
    }

    void argument(String what, Call call) {
        answers(what, "IllegalArgumentException", call);
    }

    void element(String what, Call call) {
        answers(what, "NoSuchElementException", call);
    }

    void index(String what, Call call) {
        answers(what, "IndexOutOfBoundsException", call);
    }

    void state(String what, Call call) {
        answers(what, "IllegalStateException", call);
    }

    /** The number that a call answers, or the simple name of what it throws. */
    static String outcome(Call call) {
        try {
            return String.valueOf(call.answer());
        } catch (RuntimeException thrown) {
            return thrown.getClass().getSimpleName();
        }
    }

    private void note(boolean holds, String what) {
        if (holds) {
            passed++;
            return;
        }
        failed++;
        if (failed <= 50) {
            System.out.println("FAILED " + what);
        }
    }

    void end() {
        System.out.println(passed + " passed, " + failed + " failed");
        if (failed > 0 || passed == 0) {
            System.exit(1);
        }
    }
}
