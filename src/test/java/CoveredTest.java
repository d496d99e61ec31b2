/** The corners, the basis and the free pairs for every set of powers that there can be. */
public final class CoveredTest {
    private static final int[] A = {0, 1, 0, 2, 1, 0, 3, 2, 1, 0, 4, 3, 2, 1, 0};
    private static final int[] B = {0, 0, 1, 0, 1, 2, 0, 1, 2, 3, 0, 1, 2, 3, 4};
    private static final int CALLS = 512;
    private static final int CALLS_A_SET = 16;

    private final Expect expect = new Expect();
    private SquareSums tested = new SquareSums(2);
    private final Reference due = new Reference(2);
    private int calls = 0;

    public static void main(String[] args) {
        CoveredTest test = new CoveredTest();
        // Each number here is the one ahead of it with one bit turned, that is, with one term changed.
        for (int n = 1; n < 1 << A.length; n++) {
            int set = n ^ (n >> 1);
            test.turn(Integer.numberOfTrailingZeros(n), set);
            test.compare("powers " + Integer.toBinaryString(set));
        }
        test.expect.end();
    }

    private void turn(int power, int set) {
        int v = (set >> power) & 1;
        due.term(A[power], B[power], v);
        calls += CALLS_A_SET;
        if (calls <= CALLS) {
            tested.term(A[power], B[power], v);
        } else {
            makeAnew(set);
        }
    }

    /** An object is promised to answer for so many calls alone. */
    private void makeAnew(int set) {
        tested = new SquareSums(2);
        for (int power = 0; power < A.length; power++) {
            tested.term(A[power], B[power], (set >> power) & 1);
        }
        calls = A.length + CALLS_A_SET;
    }

    private void compare(String what) {
        expect.about(Sentence.BASIS_SIZE);
        expect.same(what + " basis", due.basis(), tested.basis());
        expect.about(Sentence.CORNERS);
        expect.same(what + " corners", due.count(2), tested.count(2));
        expect.about(Sentence.HANGS);
        expect.same(what + " free", due.free(), tested.free());
        expect.about(Sentence.BASIS);
        for (int k = 0; k < 6; k++) {
            int of = k;
            expect.text(what + " a of " + of,
                Expect.outcome(() -> due.member(of, 0)), Expect.outcome(() -> tested.member(of, 0)));
            expect.text(what + " b of " + of,
                Expect.outcome(() -> due.member(of, 1)), Expect.outcome(() -> tested.member(of, 1)));
        }
    }
}
