/** Compares answers with those that are due, and tells those that differ. */
final class Expect {
    /** A call whose answer is a number; a boolean counts 1 or 0. */
    interface Call {
        long answer();
    }

    private static final int TOLD_AT_MOST = 40;

    private int wrong = 0;
    private int compared = 0;

    void same(String what, long due, long got) {
        text(what, Long.toString(due), Long.toString(got));
    }

    void yes(String what, boolean got) {
        text(what, "true", Boolean.toString(got));
    }

    void no(String what, boolean got) {
        text(what, "false", Boolean.toString(got));
    }

    /** The exception must be of this very class: one below it would be the machine's own. */
    void fails(String what, Class<? extends RuntimeException> due, Call call) {
        text(what, due.getName(), outcome(call));
    }

    void text(String what, String due, String got) {
        compared++;
        if (!due.equals(got)) {
            wrong++;
            if (wrong <= TOLD_AT_MOST) {
                System.out.println(what + " answered " + got + ", due is " + due);
            }
        }
    }

    static String outcome(Call call) {
        try {
            return Long.toString(call.answer());
        } catch (RuntimeException e) {
            return e.getClass().getName();
        }
    }

    static long bit(boolean b) {
        return b ? 1 : 0;
    }

    /** Ends the program with exit code 1 if an answer was not the one that is due. */
    void end() {
        System.out.println(compared + " answers, " + wrong + " not as due");
        if (wrong != 0) {
            System.exit(1);
        }
    }
}
