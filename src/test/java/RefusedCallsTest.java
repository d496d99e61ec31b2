import java.util.EnumSet;
import java.util.function.Supplier;

/**
 * Every call that can be refused, in states of all kinds, with the edges of each argument and their
 * mixtures: what it throws, which of several, and that nothing has changed afterwards.
 */
public final class RefusedCallsTest {
    private static final int NONE = -1;
    private static final int MAX = Integer.MAX_VALUE;
    private static final int MIN = Integer.MIN_VALUE;
    // Six times this one wraps around to 2, so that in a row of six it would look like a place of its own.
    private static final int WRAPS_TO_2 = 715827883;
    private static final int[] CHOICES = {MIN, -2, -1, 0, 1, 2, 3, MAX};

    /** An object that can be made again and again, and what it has; squares is NONE if none are there. */
    private record State(String name, int unknowns, int members, int squares, Supplier<SquareSums> make) {
        boolean noSquares() {
            return squares == NONE;
        }

        boolean noMember(int k) {
            return k < 0 || k >= members;
        }

        boolean noSquare(int k) {
            return k < 0 || k >= squares;
        }

        int[] memberEdges() {
            return new int[] {MIN, -1, 0, members - 1, members, 6, WRAPS_TO_2, MAX};
        }

        int[] squareEdges() {
            return new int[] {MIN, -1, 0, Math.max(squares, 1) - 1, Math.max(squares, 0), 6, WRAPS_TO_2, MAX};
        }
    }

    private interface Asked {
        long of(SquareSums s);
    }

    private static final State[] STATES = {
        new State("new", 2, 0, NONE, () -> new SquareSums(2)),
        new State("new with one unknown", 1, 0, NONE, () -> new SquareSums(1)),
        new State("0 and checked", 2, 0, 0, () -> checked(new SquareSums(2))),
        new State("one member", 2, 1, 1, RefusedCallsTest::oneMember),
        new State("one unknown and checked", 1, 2, 2, () -> checked(Samples.quadratic(1, 3))),
        new State("fewer squares than members", 1, 2, 1, () -> checked(Samples.quadratic(1, 1))),
        new State("six squares found", 2, 6, 6, RefusedCallsTest::sixFound),
        new State("written and not checked", 2, 6, NONE, RefusedCallsTest::sixWritten),
        new State("check answered 1", 2, 6, NONE, () -> checked(sixWritten())),
        new State("check answered 2", 1, 2, NONE, () -> checked(Samples.quadratic(2, 3))),
        new State("another one since", 1, 2, NONE, RefusedCallsTest::changedSince),
        new State("an odd corner", 2, 1, NONE, RefusedCallsTest::oddCorner),
    };

    private final Expect expect;
    private final State state;

    private RefusedCallsTest(State state, Expect expect) {
        this.state = state;
        this.expect = expect;
    }

    public static void main(String[] args) {
        Expect expect = new Expect();
        for (State state : STATES) {
            RefusedCallsTest test = new RefusedCallsTest(state, expect);
            test.stateIsAsTold();
            test.term();
            test.member();
            test.putAndAt();
            test.squaresAndWeight();
            test.row();
            test.find();
            test.value();
        }
        expect.end(EnumSet.of(Sentence.NO_SUCH, Sentence.AS_SAID, Sentence.FIRST_THROWN));
    }

    private static SquareSums checked(SquareSums s) {
        s.check();
        return s;
    }

    private static SquareSums oneMember() {
        SquareSums s = Samples.polynomial(2, 2, 2, 7);
        s.find(1);
        return s;
    }

    private static SquareSums sixFound() {
        SquareSums s = Samples.polynomial(2, 0, 0, 1, 2, 0, 2, 0, 2, 3, 4, 0, 4, 2, 2, 5, 0, 4, 6, 1, 0, 1);
        s.find(0);
        return s;
    }

    private static SquareSums sixWritten() {
        SquareSums s = Samples.six();
        int v = -10;
        for (int i = 0; i < 6; i++) {
            for (int j = i; j < 6; j++) {
                s.put(i, j, v);
                v++;
            }
        }
        return s;
    }

    private static SquareSums changedSince() {
        SquareSums s = checked(Samples.quadratic(1, 3));
        s.put(0, 1, 3);
        return s;
    }

    private static SquareSums oddCorner() {
        SquareSums s = Samples.polynomial(2, 3, 1, 1, 1, 3, 1);
        s.put(0, 0, 4);
        return s;
    }

    private void stateIsAsTold() {
        SquareSums s = state.make().get();
        String squares = state.noSquares() ? Expect.STATE.getName() : Integer.toString(state.squares());
        expect.about(null);
        expect.text(state.name() + ": squares", squares, Expect.outcome(s::squares));
        expect.same(state.name() + ": unknowns", state.unknowns(), s.count(1));
    }

    /** The three causes in the order in which they stand behind any throws of the face. */
    private void ask(String call, Asked asked, boolean badState, boolean badIndex, boolean badArgument) {
        String what = state.name() + ": " + call;
        SquareSums called = state.make().get();
        String got = Expect.outcome(() -> asked.of(called));
        int causes = (badState ? 1 : 0) + (badIndex ? 1 : 0) + (badArgument ? 1 : 0);
        if (causes == 0) {
            expect.about(Sentence.AS_SAID);
            expect.no(what + " is refused", got.startsWith("java"));
            return;
        }
        Class<?> due = badState ? Expect.STATE : badIndex ? Expect.INDEX : Expect.ARGUMENT;
        expect.about(causes > 1 ? Sentence.FIRST_THROWN
            : due == Expect.INDEX ? Sentence.NO_SUCH : Sentence.AS_SAID);
        expect.text(what, due.getName(), got);
        expect.about(Sentence.FIRST_THROWN);
        SquareSums spared = state.make().get();
        expect.text(what + ", and then", allTold(spared), allTold(called));
    }

    /** What is there now, and what comes of it: a change that can't be seen yet shows in the latter. */
    private static String allTold(SquareSums s) {
        String now = Snapshot.of(s);
        String check = Expect.outcome(s::check);
        String find = Expect.outcome(() -> s.find(1));
        return now + " check=" + check + " find=" + find + " " + Snapshot.of(s);
    }

    private void term() {
        int[] powers = {MIN, -1, 0, 1, 2, 4, 5, 256, 65536, MAX};
        int[] numbers = {MIN, -16, -15, 15, 16, MAX};
        for (int a : powers) {
            for (int b : powers) {
                for (int v : numbers) {
                    term(a, b, v);
                }
            }
        }
        // Sums that wrap around to what a power's could be.
        term(MIN, MIN, 1);
        term(MAX, MIN + 1, 1);
        term(MAX, MIN + 5, 1);
        term(MIN + 4, MIN, 1);
        term(5, -1, 1);
        term(-1, 5, 1);
    }

    private void term(int a, int b, int v) {
        boolean power = a >= 0 && b >= 0 && (long) a + b <= 4 && (state.unknowns() == 2 || b == 0);
        boolean number = v >= -15 && v <= 15;
        ask("term(" + a + ", " + b + ", " + v + ")", s -> Expect.bit(s.term(a, b, v)),
            false, false, !power || !number);
    }

    private void member() {
        for (int k : state.memberEdges()) {
            for (int letter : CHOICES) {
                ask("member(" + k + ", " + letter + ")", s -> s.member(k, letter),
                    false, state.noMember(k), letter != 0 && letter != 1);
            }
        }
    }

    private void putAndAt() {
        int[] numbers = {MIN, -31, -30, 0, 30, 31, MAX};
        for (int i : state.memberEdges()) {
            for (int j : state.memberEdges()) {
                putAndAt(i, j, numbers);
            }
        }
        // Places in a row of six that would be another one's.
        putAndAt(1, -6, numbers);
        putAndAt(-1, 6, numbers);
        putAndAt(0, 7, numbers);
    }

    private void putAndAt(int i, int j, int[] numbers) {
        boolean noMember = state.noMember(i) || state.noMember(j);
        ask("at(" + i + ", " + j + ")", s -> s.at(i, j), false, noMember, false);
        for (int v : numbers) {
            ask("put(" + i + ", " + j + ", " + v + ")", s -> Expect.bit(s.put(i, j, v)),
                false, noMember, v < -30 || v > 30);
        }
    }

    private void squaresAndWeight() {
        ask("squares()", SquareSums::squares, state.noSquares(), false, false);
        for (int k : state.squareEdges()) {
            for (int part : CHOICES) {
                ask("weight(" + k + ", " + part + ")", s -> s.weight(k, part),
                    state.noSquares(), state.noSquare(k), part != 0 && part != 1);
            }
        }
    }

    private void row() {
        for (int k : state.squareEdges()) {
            for (int i : state.memberEdges()) {
                for (int part : CHOICES) {
                    ask("row(" + k + ", " + i + ", " + part + ")", s -> s.row(k, i, part),
                        state.noSquares(), state.noSquare(k) || state.noMember(i), part != 0 && part != 1);
                }
            }
        }
    }

    private void find() {
        for (int most : CHOICES) {
            ask("find(" + most + ")", s -> s.find(most), false, false, most < 0 || most > 2);
        }
    }

    private void value() {
        int[] edges = {MIN, -101, -100, 0, 100, 101, MAX};
        for (int x : edges) {
            for (int y : edges) {
                boolean badX = x < -100 || x > 100;
                boolean badY = y < -100 || y > 100;
                ask("value(" + x + ", " + y + ")", s -> s.value(x, y),
                    false, false, badX || (state.unknowns() == 2 && badY));
            }
        }
    }
}
