import java.util.EnumSet;
import java.util.Set;

/** Compares answers with those that are due, and tells those that differ. */
final class Expect {
    /** A call whose answer is a number; a boolean counts 1 or 0. */
    interface Call {
        long answer();
    }

    static final Class<IllegalArgumentException> ARGUMENT = IllegalArgumentException.class;
    static final Class<IndexOutOfBoundsException> INDEX = IndexOutOfBoundsException.class;
    static final Class<IllegalStateException> STATE = IllegalStateException.class;

    private static final int TOLD_AT_MOST = 40;

    private final Set<Sentence> tested = EnumSet.noneOf(Sentence.class);
    private Sentence sentence = null;
    private int wrong = 0;
    private int compared = 0;

    /** What is compared from now on tells whether this sentence holds. */
    void about(Sentence next) {
        sentence = next;
    }

    void same(String what, long due, long got) {
        text(what, Long.toString(due), Long.toString(got));
    }

    void yes(String what, boolean got) {
        text(what, "true", Boolean.toString(got));
    }

    void no(String what, boolean got) {
        text(what, "false", Boolean.toString(got));
    }

    /** The exception must be of this very class: one below it would be the machine's own. */
    void fails(String what, Class<? extends RuntimeException> due, Call call) {
        text(what, due.getName(), outcome(call));
    }

    void text(String what, String due, String got) {
        compared++;
        if (sentence != null) {
            tested.add(sentence);
        }
        if (!due.equals(got)) {
            wrong++;
            if (wrong <= TOLD_AT_MOST) {
                System.out.println(what + " answered " + got + ", due is " + due + sentenceTold());
            }
        }
    }

    void fraction(String what, long above, long below, long gotAbove, long gotBelow) {
        text(what, above + "/" + below, gotAbove + "/" + gotBelow);
    }

    /** Just these members, told by a and b in a row for each. */
    void members(String what, SquareSums s, int... due) {
        for (int k = 0; 2 * k < due.length; k++) {
            int of = k;
            text(what + ": a of " + k, Integer.toString(due[2 * k]), outcome(() -> s.member(of, 0)));
            text(what + ": b of " + k, Integer.toString(due[2 * k + 1]), outcome(() -> s.member(of, 1)));
        }
        fails(what + ": no more members", INDEX, () -> s.member(due.length / 2, 0));
    }

    private String sentenceTold() {
        return sentence == null ? "" : " (" + sentence.section + ": " + sentence.words + ")";
    }

    static String outcome(Call call) {
        try {
            return Long.toString(call.answer());
        } catch (RuntimeException e) {
            return e.getClass().getName();
        }
    }

    /** Calls whose answers are compared elsewhere; here they must just be made. */
    void outcomes(Call... calls) {
        for (Call call : calls) {
            outcome(call);
        }
    }

    static long bit(boolean b) {
        return b ? 1 : 0;
    }

    /** Each of these sentences must have been asked about. */
    void end(Set<Sentence> toBeTested) {
        for (Sentence each : toBeTested) {
            if (!tested.contains(each)) {
                wrong++;
                System.out.println("no test of " + each.section + ": " + each.words);
            }
        }
        end();
    }

    /** Ends the program with exit code 1 if an answer was not the one that is due. */
    void end() {
        System.out.println(compared + " answers, " + wrong + " not as due");
        if (wrong != 0) {
            System.exit(1);
        }
    }
}
