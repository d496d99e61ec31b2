import java.util.EnumSet;

/** The edges of each promise, one sentence of the document after the other. */
public final class BoundariesOfPromisesTest {
    private static final int MAX = Integer.MAX_VALUE;
    private static final int MIN = Integer.MIN_VALUE;
    private static final int HIGHEST = 4;
    private static final int MEMBERS = 6;

    private final Expect expect = new Expect();

    public static void main(String[] args) {
        BoundariesOfPromisesTest test = new BoundariesOfPromisesTest();
        test.newUnknowns();
        test.newPolynomial();
        test.term();
        test.termTakesTableAndSquares();
        test.termRefused();
        test.basisSize();
        test.basisBarred();
        test.basisThenToo();
        test.member();
        test.memberRefused();
        test.put();
        test.putRefused();
        test.at();
        test.check();
        test.squares();
        test.squaresRefused();
        test.squaresStay();
        test.weight();
        test.weightState();
        test.weightRefused();
        test.row();
        test.free();
        test.find();
        test.findFirstAndLast();
        test.findWith1();
        test.findBringsTableAndSquares();
        test.findNone();
        test.findRefused();
        test.value();
        test.valueRefused();
        test.count();
        test.clear();
        test.clearOf0();
        test.expect.end(EnumSet.range(Sentence.NEW_UNKNOWNS, Sentence.CLEAR));
    }

    private static SquareSums checked(SquareSums s) {
        s.check();
        return s;
    }

    private void newUnknowns() {
        expect.about(Sentence.NEW_UNKNOWNS);
        int[][] due = {{MIN, 1}, {-2, 1}, {-1, 1}, {0, 1}, {1, 1}, {2, 2}, {3, 2}, {4, 2}, {MAX, 2}};
        for (int[] d : due) {
            SquareSums s = new SquareSums(d[0]);
            expect.same("unknowns of " + d[0], d[1], s.count(1));
            String y = d[1] == 1 ? Expect.ARGUMENT.getName() : "1";
            expect.text("y of " + d[0], y, Expect.outcome(() -> Expect.bit(s.term(0, 1, 1))));
            expect.yes("x of " + d[0], s.term(4, 0, 1));
        }
    }

    private void newPolynomial() {
        expect.about(Sentence.NEW_POLYNOMIAL);
        for (int unknowns = 0; unknowns <= 3; unknowns++) {
            SquareSums s = new SquareSums(unknowns);
            isEmpty("new", s);
            expect.same("new: check", 0, s.check());
            expect.same("new: squares", 0, s.squares());
            expect.same("new: find", 0, new SquareSums(unknowns).find(0));
            expect.no("new: 0 is there", new SquareSums(unknowns).term(0, 0, 0));
        }
    }

    /** The polynomial is 0, and no squares are there. */
    private void isEmpty(String what, SquareSums s) {
        expect.same(what + ": terms", 0, s.count(0));
        expect.same(what + ": corners", 0, s.count(2));
        expect.same(what + ": basis", 0, s.basis());
        expect.same(what + ": free", 0, s.free());
        for (int x = 0; x <= HIGHEST; x++) {
            for (int y = 0; x + y <= HIGHEST; y++) {
                expect.same(what + ": value", 0, s.value(x, y));
            }
        }
        expect.same(what + ": greatest value", 0, s.value(100, -100));
        expect.fails(what + ": no member", Expect.INDEX, () -> s.member(0, 0));
        expect.fails(what + ": no number", Expect.INDEX, () -> s.at(0, 0));
        expect.fails(what + ": squares", Expect.STATE, s::squares);
    }

    private void term() {
        expect.about(Sentence.TERM);
        for (int a = 0; a <= HIGHEST; a++) {
            for (int b = 0; a + b <= HIGHEST; b++) {
                String what = "at " + a + ", " + b + ": ";
                SquareSums s = new SquareSums(2);
                expect.no(what + "0 is there", s.term(a, b, 0));
                expect.yes(what + "from 0 to 15", s.term(a, b, 15));
                expect.no(what + "15 is there", s.term(a, b, 15));
                expect.yes(what + "from 15 to -15", s.term(a, b, -15));
                expect.no(what + "-15 is there", s.term(a, b, -15));
                expect.yes(what + "from -15 to -14", s.term(a, b, -14));
                expect.yes(what + "from -14 to 0", s.term(a, b, 0));
                expect.same(what + "no term", 0, s.count(0));
            }
        }
    }

    private void termTakesTableAndSquares() {
        expect.about(Sentence.TERM);
        SquareSums s = checked(Samples.quadratic(1, 3));
        expect.no("the same", s.term(1, 0, 2));
        expect.no("the same, 0", s.term(4, 0, 0));
        expect.same("the table is as it was", 6, s.at(0, 0));
        expect.same("the squares are there", 2, s.squares());
        expect.yes("another one, the basis the same", s.term(1, 0, 1));
        expect.same("members", 2, s.basis());
        for (int i = 0; i < 2; i++) {
            for (int j = 0; j < 2; j++) {
                expect.same("no number for " + i + ", " + j, 0, s.at(i, j));
            }
        }
        expect.fails("no squares", Expect.STATE, s::squares);
        expect.yes("back", s.term(1, 0, 2));
        expect.same("the table doesn't come back", 0, s.at(0, 0));
        expect.fails("the squares don't come back", Expect.STATE, s::squares);
        SquareSums full = Samples.six();
        for (int i = 0; i < MEMBERS; i++) {
            for (int j = i; j < MEMBERS; j++) {
                full.put(i, j, 30);
            }
        }
        expect.yes("fewer members", full.term(4, 0, 0));
        expect.yes("all members again", full.term(4, 0, 1));
        for (int i = 0; i < MEMBERS; i++) {
            for (int j = 0; j < MEMBERS; j++) {
                expect.same("no number of a full table for " + i + ", " + j, 0, full.at(i, j));
            }
        }
        SquareSums written = Samples.quadratic(1, 3);
        expect.yes("another one, never checked", written.term(0, 0, 4));
        expect.same("no number, never checked", 0, written.at(1, 1));
        SquareSums zero = checked(new SquareSums(2));
        expect.yes("no longer 0", zero.term(0, 0, 1));
        expect.fails("no squares of what was 0", Expect.STATE, zero::squares);
    }

    private void termRefused() {
        expect.about(Sentence.TERM_REFUSED);
        SquareSums s = Samples.polynomial(2, 2, 2, 7);
        int[][] wrong = {{-1, 0, 1}, {0, -1, 1}, {5, 0, 1}, {0, 5, 1}, {4, 1, 1}, {1, 4, 1}, {3, 2, 1}, {2, 3, 1},
            {2, 2, 16}, {2, 2, -16}, {2, 2, MAX}, {2, 2, MIN}, {MAX, MAX, 1}, {MIN, MIN, 1}, {5, 0, 16},
            {-1, 0, 0}, {5, 0, 0}};
        for (int[] w : wrong) {
            expect.fails("term(" + w[0] + ", " + w[1] + ", " + w[2] + ")", Expect.ARGUMENT,
                () -> Expect.bit(s.term(w[0], w[1], w[2])));
        }
        expect.same("one term still", 1, s.count(0));
        expect.same("its number still", 7, s.value(1, 1));
        expect.yes("the last ones that are right", s.term(4, 0, 15) && s.term(0, 4, -15) && s.term(0, 0, 1));
        SquareSums one = new SquareSums(1);
        expect.fails("y to the 1 of one unknown", Expect.ARGUMENT, () -> Expect.bit(one.term(0, 1, 1)));
        expect.fails("y to the -1 of one unknown", Expect.ARGUMENT, () -> Expect.bit(one.term(0, -1, 1)));
        expect.fails("0 for y of one unknown", Expect.ARGUMENT, () -> Expect.bit(one.term(3, 1, 0)));
        expect.yes("y to the 0 of one unknown", one.term(4, 0, 1));
    }

    private void basisSize() {
        expect.about(Sentence.BASIS_SIZE);
        expect.same("0", 0, new SquareSums(2).basis());
        expect.same("x4", 1, Samples.polynomial(2, 4, 0, 1).basis());
        expect.same("x2 + 1", 2, Samples.polynomial(2, 2, 0, 1, 0, 0, 1).basis());
        expect.same("x2 + y2 + 1", 3, Samples.polynomial(2, 2, 0, 1, 0, 2, 1, 0, 0, 1).basis());
        expect.same("x4 + y2 + 1", 4, Samples.polynomial(2, 4, 0, 1, 0, 2, 1, 0, 0, 1).basis());
        expect.same("x4 + x2 y2 + y2 + 1", 5,
            Samples.polynomial(2, 4, 0, 1, 2, 2, 1, 0, 2, 1, 0, 0, 1).basis());
        expect.same("x4 + y4 + 1", 6, Samples.six().basis());
        expect.same("all powers", 6, Samples.allPowers().basis());
    }

    private void basisBarred() {
        expect.about(Sentence.BASIS_SIZE);
        for (int a = 0; a <= HIGHEST; a++) {
            for (int b = 0; a + b <= HIGHEST; b++) {
                boolean even = a % 2 == 0 && b % 2 == 0;
                String what = "one term " + a + ", " + b + " with ";
                expect.same(what + 1, even ? 1 : -1, Samples.polynomial(2, a, b, 1).basis());
                expect.same(what + 15, even ? 1 : -1, Samples.polynomial(2, a, b, 15).basis());
                expect.same(what + -1, -1, Samples.polynomial(2, a, b, -1).basis());
                expect.same(what + -15, -1, Samples.polynomial(2, a, b, -15).basis());
            }
        }
        int[][] corners = {{4, 0}, {0, 4}, {0, 0}};
        for (int[] corner : corners) {
            SquareSums s = Samples.allPowers();
            s.term(corner[0], corner[1], -1);
            expect.same("-1 at the corner " + corner[0] + ", " + corner[1], -1, s.basis());
        }
        SquareSums inside = Samples.six();
        for (int a = 0; a <= HIGHEST; a++) {
            for (int b = 0; a + b <= HIGHEST; b++) {
                if (a != 4 && b != 4 && a + b != 0) {
                    inside.term(a, b, -15);
                }
            }
        }
        expect.same("below 0 and odd, but no corners", 6, inside.basis());
        expect.same("an odd a at one corner of three", -1,
            Samples.polynomial(2, 4, 0, 1, 1, 2, 1, 0, 0, 1).basis());
        expect.same("an odd b at one corner of three", -1,
            Samples.polynomial(2, 0, 4, 1, 2, 1, 1, 0, 0, 1).basis());
        SquareSums x = Samples.polynomial(1, 1, 0, 1, 0, 0, 1);
        expect.same("x + 1", -1, x.basis());
        x.term(2, 0, 1);
        expect.same("x2 + x + 1, x no corner any more", 2, x.basis());
        x.term(0, 0, 0);
        expect.same("x2 + x, x a corner again", -1, x.basis());
    }

    private void basisThenToo() {
        expect.about(Sentence.BASIS_THEN_TOO);
        SquareSums below = Samples.polynomial(2, 4, 0, -1, 0, 4, -1, 0, 0, -1);
        expect.same("below 0", -1, below.basis());
        expect.members("below 0", below, 0, 0, 1, 0, 0, 1, 2, 0, 1, 1, 0, 2);
        expect.same("below 0: free", 6, below.free());
        expect.yes("below 0: put", below.put(5, 5, -2) && below.put(0, 0, -2) && below.put(3, 3, -2));
        expect.same("below 0: at", -2, below.at(5, 5));
        expect.same("below 0: check", 2, below.check());
        expect.same("below 0: find", -1, below.find(2));
        SquareSums odd = Samples.polynomial(2, 3, 1, 1, 1, 3, 1);
        expect.same("odd", -1, odd.basis());
        expect.members("odd", odd, 1, 1);
        SquareSums none = Samples.polynomial(1, 3, 0, 1);
        expect.same("odd, no members", -1, none.basis());
        expect.members("odd, no members", none);
        SquareSums two = Samples.polynomial(1, 4, 0, 1, 1, 0, 1);
        expect.same("odd, two members", -1, two.basis());
        expect.members("odd, two members", two, 1, 0, 2, 0);
    }

    private void member() {
        expect.about(Sentence.MEMBER);
        SquareSums s = Samples.six();
        expect.same("a of the first", 0, s.member(0, 0));
        expect.same("b of the first", 0, s.member(0, 1));
        expect.same("a of the fourth", 2, s.member(3, 0));
        expect.same("b of the fourth", 0, s.member(3, 1));
        expect.same("a of the last", 0, s.member(5, 0));
        expect.same("b of the last", 2, s.member(5, 1));
        expect.fails("one behind the last", Expect.INDEX, () -> s.member(6, 0));
        expect.fails("one ahead of the first", Expect.INDEX, () -> s.member(-1, 0));
        expect.same("b of one unknown", 0, Samples.polynomial(1, 4, 0, 1).member(0, 1));
    }

    private void memberRefused() {
        expect.about(Sentence.MEMBER_REFUSED);
        SquareSums s = Samples.six();
        for (int letter : new int[] {MIN, -2, -1, 2, 3, MAX}) {
            expect.fails("letter " + letter, Expect.ARGUMENT, () -> s.member(3, letter));
            expect.fails("no member and letter " + letter, Expect.INDEX, () -> s.member(6, letter));
            expect.fails("no members and letter " + letter, Expect.INDEX,
                () -> new SquareSums(1).member(0, letter));
        }
    }

    private void put() {
        expect.about(Sentence.PUT);
        SquareSums s = Samples.six();
        expect.no("0 is there", s.put(5, 5, 0));
        expect.yes("from 0 to 30", s.put(5, 5, 30));
        expect.no("30 is there", s.put(5, 5, 30));
        expect.yes("from 30 to -30", s.put(5, 5, -30));
        expect.no("-30 is there", s.put(5, 5, -30));
        expect.yes("from -30 to 0", s.put(5, 5, 0));
        expect.yes("for 0, 5", s.put(0, 5, 1));
        expect.no("is there for 5, 0", s.put(5, 0, 1));
        SquareSums q = checked(Samples.quadratic(1, 3));
        expect.no("the same", q.put(0, 1, 2));
        expect.no("the same for 1, 0", q.put(1, 0, 2));
        expect.same("the squares are there", 2, q.squares());
        expect.yes("another one", q.put(1, 0, 1));
        expect.fails("no squares", Expect.STATE, q::squares);
        expect.yes("back", q.put(1, 0, 2));
        expect.fails("the squares don't come back", Expect.STATE, q::squares);
    }

    private void putRefused() {
        expect.about(Sentence.PUT_REFUSED);
        SquareSums s = checked(Samples.quadratic(1, 3));
        for (int v : new int[] {MIN, -32, -31, 31, 32, MAX}) {
            expect.fails("number " + v, Expect.ARGUMENT, () -> Expect.bit(s.put(0, 1, v)));
            expect.fails("no member behind and number " + v, Expect.INDEX, () -> Expect.bit(s.put(0, 2, v)));
            expect.fails("no member ahead and number " + v, Expect.INDEX, () -> Expect.bit(s.put(-1, 0, v)));
            expect.fails("no members and number " + v, Expect.INDEX,
                () -> Expect.bit(new SquareSums(2).put(0, 0, v)));
        }
        expect.same("the number still", 2, s.at(0, 1));
        expect.same("the squares still", 2, s.squares());
        expect.yes("the last ones that are right", s.put(0, 1, -30) && s.put(0, 1, 30));
    }

    private void at() {
        expect.about(Sentence.AT);
        SquareSums s = Samples.six();
        expect.same("0 at first", 0, s.at(0, 0));
        s.put(0, 0, -30);
        s.put(5, 5, 30);
        s.put(5, 0, 7);
        expect.same("the first", -30, s.at(0, 0));
        expect.same("the last", 30, s.at(5, 5));
        expect.same("across", 7, s.at(0, 5));
        expect.same("across the other way", 7, s.at(5, 0));
        expect.same("beside it", 0, s.at(1, 5));
        int[][] wrong = {{-1, 0}, {0, -1}, {6, 0}, {0, 6}, {5, 6}, {6, 5}, {MIN, 0}, {0, MAX}, {1, -6}, {-1, 6},
            {715827883, 0}, {0, 715827883}};
        for (int[] w : wrong) {
            expect.fails("at(" + w[0] + ", " + w[1] + ")", Expect.INDEX, () -> s.at(w[0], w[1]));
        }
        expect.fails("no members", Expect.INDEX, () -> new SquareSums(2).at(0, 0));
    }

    private void check() {
        expect.about(Sentence.CHECK);
        SquareSums s = Samples.quadratic(1, 1);
        expect.same("just good", 0, s.check());
        expect.same("its square", 1, s.squares());
        expect.same("again", 0, s.check());
        expect.same("its square again", 1, s.squares());
        s.put(1, 1, 3);
        expect.same("a half too much", 1, s.check());
        expect.fails("none of 1", Expect.STATE, s::squares);
        s.put(1, 1, 2);
        expect.same("good again", 0, s.check());
        expect.same("there again", 1, s.squares());
        SquareSums fails = Samples.quadratic(2, 3);
        expect.same("makes it, but fails", 2, fails.check());
        expect.fails("none of 2", Expect.STATE, fails::squares);
        expect.fails("no weight of 2", Expect.STATE, () -> fails.weight(0, 0));
        fails.put(0, 0, -6);
        expect.same("neither makes it nor is it without failing", 1, fails.check());
        SquareSums after = Samples.polynomial(1, 4, 0, 1, 0, 0, 1);
        after.find(0);
        after.put(1, 1, 2);
        after.put(0, 2, -1);
        expect.same("another table that makes it", 0, after.check());
        expect.same("three squares", 3, after.squares());
        after.put(1, 1, -2);
        after.put(0, 2, 1);
        expect.same("another one that fails", 2, after.check());
        expect.fails("none of that", Expect.STATE, after::squares);
        SquareSums zero = new SquareSums(1);
        expect.same("0", 0, zero.check());
        expect.same("no squares, but there", 0, zero.squares());
        SquareSums x = Samples.polynomial(1, 1, 0, 1);
        expect.same("no members", 1, x.check());
        expect.fails("none of no members", Expect.STATE, x::squares);
    }

    private void squares() {
        expect.about(Sentence.SQUARES);
        expect.same("of 0", 0, checked(new SquareSums(2)).squares());
        expect.same("one", 1, checked(Samples.quadratic(-1, 1)).squares());
        expect.same("two", 2, checked(Samples.quadratic(-1, 2)).squares());
        SquareSums six = Samples.polynomial(2, 0, 0, 1, 2, 0, 1, 0, 2, 1, 4, 0, 1, 2, 2, 1, 0, 4, 1);
        six.find(0);
        expect.same("six", 6, six.squares());
    }

    private void squaresRefused() {
        expect.about(Sentence.SQUARES_REFUSED);
        expect.fails("new", Expect.STATE, () -> new SquareSums(2).squares());
        expect.fails("never checked", Expect.STATE, () -> Samples.quadratic(1, 3).squares());
        expect.fails("check answered 1", Expect.STATE, () -> checked(Samples.six()).squares());
        expect.fails("check answered 2", Expect.STATE, () -> checked(Samples.quadratic(2, 3)).squares());
        SquareSums first = checked(Samples.quadratic(1, 3));
        first.put(0, 0, 5);
        first.check();
        expect.fails("0 at first, but 1 the latest", Expect.STATE, first::squares);
        SquareSums number = checked(Samples.quadratic(1, 3));
        number.put(0, 0, 5);
        expect.fails("another number of the table since", Expect.STATE, number::squares);
        SquareSums term = checked(Samples.quadratic(1, 3));
        term.term(4, 0, 1);
        expect.fails("another term since", Expect.STATE, term::squares);
        SquareSums cleared = checked(Samples.quadratic(1, 3));
        cleared.clear();
        expect.fails("cleared since", Expect.STATE, cleared::squares);
        SquareSums found = Samples.quadratic(1, 3);
        found.find(0);
        found.put(0, 0, 5);
        expect.fails("found, and another number since", Expect.STATE, found::squares);
    }

    private void squaresStay() {
        expect.about(Sentence.SQUARES_REFUSED);
        SquareSums s = checked(Samples.quadratic(1, 3));
        s.put(0, 1, 2);
        s.term(2, 0, 1);
        expect.outcomes(s::basis, s::free, () -> s.at(0, 0), () -> s.member(0, 0), () -> s.value(1, 1),
            () -> s.count(0), () -> s.weight(0, 0), () -> s.row(0, 0, 0));
        expect.same("nothing is another one", 2, s.squares());
        expect.outcomes(() -> Expect.bit(s.put(0, 0, 31)), () -> Expect.bit(s.put(2, 0, 1)),
            () -> Expect.bit(s.term(5, 0, 1)), () -> Expect.bit(s.term(0, 0, 16)), () -> s.find(3),
            () -> s.value(101, 0), () -> s.weight(2, 0), () -> s.row(0, 0, 2), () -> s.member(2, 2),
            () -> s.at(2, 2));
        expect.same("refused calls change nothing", 2, s.squares());
    }

    private void weight() {
        expect.about(Sentence.WEIGHT);
        SquareSums s = checked(Samples.quadratic(1, 3));
        expect.same("above of the first", 3, s.weight(0, 0));
        expect.same("below of the first", 1, s.weight(0, 1));
        expect.same("above of the last", 2, s.weight(1, 0));
        expect.same("below of the last", 3, s.weight(1, 1));
        for (int k : new int[] {MIN, -1, 2, 3, MAX}) {
            expect.fails("square " + k, Expect.INDEX, () -> s.weight(k, 0));
        }
        expect.fails("of 0 there are none", Expect.INDEX, () -> checked(new SquareSums(2)).weight(0, 0));
        SquareSums one = checked(Samples.quadratic(1, 1));
        expect.fails("a member without a square", Expect.INDEX, () -> one.weight(1, 0));
    }

    private void weightState() {
        expect.about(Sentence.WEIGHT_STATE);
        int[][] calls = {{0, 0}, {1, 1}, {-1, 0}, {2, 0}, {0, -1}, {0, 2}, {MAX, MIN}};
        for (int[] c : calls) {
            String what = "weight(" + c[0] + ", " + c[1] + ") ";
            expect.fails(what + "new", Expect.STATE, () -> new SquareSums(1).weight(c[0], c[1]));
            expect.fails(what + "never checked", Expect.STATE, () -> Samples.quadratic(1, 3).weight(c[0], c[1]));
            expect.fails(what + "after 1", Expect.STATE, () -> checked(Samples.six()).weight(c[0], c[1]));
            expect.fails(what + "after 2", Expect.STATE,
                () -> checked(Samples.quadratic(2, 3)).weight(c[0], c[1]));
            SquareSums since = checked(Samples.quadratic(1, 3));
            since.put(1, 1, 4);
            expect.fails(what + "another one since", Expect.STATE, () -> since.weight(c[0], c[1]));
        }
    }

    private void weightRefused() {
        expect.about(Sentence.WEIGHT_REFUSED);
        SquareSums s = checked(Samples.quadratic(1, 3));
        for (int part : new int[] {MIN, -2, -1, 2, 3, MAX}) {
            expect.fails("part " + part, Expect.ARGUMENT, () -> s.weight(1, part));
            expect.fails("no square and part " + part, Expect.INDEX, () -> s.weight(2, part));
            expect.fails("no squares and part " + part, Expect.STATE, () -> Samples.six().weight(0, part));
        }
        expect.same("the squares still", 2, s.squares());
    }

    private void row() {
        expect.about(Sentence.ROW);
        SquareSums s = checked(Samples.quadratic(1, 3));
        expect.fraction("the first, the first", 1, 1, s.row(0, 0, 0), s.row(0, 0, 1));
        expect.fraction("the first, the last", 1, 3, s.row(0, 1, 0), s.row(0, 1, 1));
        expect.fraction("the last, the first", 0, 1, s.row(1, 0, 0), s.row(1, 0, 1));
        expect.fraction("the last, the last", 1, 1, s.row(1, 1, 0), s.row(1, 1, 1));
        for (int k : new int[] {MIN, -1, 2, 3, MAX}) {
            expect.fails("square " + k, Expect.INDEX, () -> s.row(k, 0, 0));
            expect.fails("member " + k, Expect.INDEX, () -> s.row(0, k, 0));
            expect.fails("part " + k, Expect.ARGUMENT, () -> s.row(1, 1, k));
            expect.fails("square and part " + k, Expect.INDEX, () -> s.row(k, 0, k));
            expect.fails("member and part " + k, Expect.INDEX, () -> s.row(0, k, k));
            expect.fails("no squares and " + k, Expect.STATE, () -> Samples.quadratic(1, 3).row(k, k, k));
        }
        SquareSums one = checked(Samples.quadratic(1, 1));
        expect.fraction("more members than squares", 1, 1, one.row(0, 1, 0), one.row(0, 1, 1));
        expect.fails("fewer squares than members", Expect.INDEX, () -> one.row(1, 0, 0));
        expect.fails("of 0 there are none", Expect.INDEX, () -> checked(new SquareSums(2)).row(0, 0, 0));
        expect.fails("new", Expect.STATE, () -> new SquareSums(1).row(0, 0, 0));
        expect.fails("after 1", Expect.STATE, () -> checked(Samples.six()).row(0, 0, 0));
        expect.fails("after 2", Expect.STATE, () -> checked(Samples.quadratic(2, 3)).row(0, 0, 0));
        s.put(1, 1, 4);
        expect.fails("another one since", Expect.STATE, () -> s.row(0, 0, 0));
    }

    private void free() {
        expect.about(Sentence.FREE);
        expect.same("no members", 0, new SquareSums(2).free());
        expect.same("no members, but a term", 0, Samples.polynomial(2, 1, 1, 1).free());
        expect.same("one member", 0, Samples.polynomial(2, 2, 2, 1).free());
        expect.same("three members, none", 0, Samples.polynomial(2, 2, 0, 1, 0, 2, 1, 0, 0, 1).free());
        expect.same("three members, one", 1, Samples.polynomial(1, 4, 0, 1, 0, 0, 1).free());
        expect.same("five members", 3, Samples.polynomial(2, 4, 0, 1, 2, 2, 1, 0, 2, 1, 0, 0, 1).free());
        expect.same("six members", 6, Samples.six().free());
        expect.same("six members, all powers", 6, Samples.allPowers().free());
    }

    private void find() {
        expect.about(Sentence.FIND);
        // The number for x and x is -2 times the free one, so that 0, -1 and -2 are all good.
        SquareSums s = Samples.polynomial(1, 4, 0, 1, 0, 0, 1);
        int[][] due = {{0, 0, 0}, {1, 0, -1}, {2, 0, -2}};
        for (int[] d : due) {
            expect.same("most " + d[0], d[1], s.find(d[0]));
            expect.same("most " + d[0] + ", the free number", d[2], s.at(0, 2));
        }
        // The number for x and x is -2 and -2 times the free one, so that -1 and -2 are good.
        SquareSums none = Samples.polynomial(1, 4, 0, 1, 2, 0, -1, 0, 0, 1);
        expect.same("-1 is needed", -1, none.find(0));
        expect.same("-1 is the first of most 1", 0, none.find(1));
        expect.same("-2 is good, too", 0, none.find(2));
        SquareSums zero = new SquareSums(2);
        for (int most = 0; most <= 2; most++) {
            expect.same("no free pairs, one table, of 0", 0, zero.find(most));
            expect.same("no free pairs, one table", 0, Samples.quadratic(1, 3).find(most));
        }
    }

    private void findFirstAndLast() {
        expect.about(Sentence.FIND);
        SquareSums first = Samples.polynomial(2, 0, 0, 15, 2, 0, 13, 0, 2, 13, 4, 0, 15, 2, 2, 13, 0, 4, 15);
        expect.same("the first of 15625", 0, first.find(2));
        expect.same("the first of 729", 0, first.find(1));
        expect.same("the first of 1", 0, first.find(0));
        SquareSums last = Samples.polynomial(2, 0, 0, 5, 0, 1, 10, 0, 2, 7, 0, 3, 2, 0, 4, 1, 1, 0, 2, 1, 1, 4,
            1, 3, 2, 2, 0, 4, 2, 2, 3, 3, 0, -2, 3, 1, 2, 4, 0, 1);
        expect.same("the last of 15625", 15624, last.find(2));
        for (int[] pair : new int[][] {{0, 3}, {0, 5}, {1, 2}, {2, 3}, {2, 4}, {3, 5}}) {
            expect.same("2 for all free pairs", 2, last.at(pair[0], pair[1]));
        }
        expect.same("none of 729", -1, last.find(1));
        expect.same("none of 1", -1, last.find(0));
        expect.same("the table still", 2, last.at(3, 5));
        SquareSums cross = Samples.polynomial(2, 0, 0, 1, 2, 0, 1, 0, 2, 1, 2, 2, 1, 1, 1, 4);
        expect.same("the last of 5", 4, cross.find(2));
        cross.term(1, 1, 2);
        expect.same("the third of 5", 2, cross.find(2));
        expect.same("the second of 3", 1, cross.find(1));
        cross.term(1, 1, 3);
        expect.same("the last of 3", 2, cross.find(1));
    }

    /** The numbers for the six free pairs told in threes, 0 for -1, 2 for 1. */
    private void foundWith1At(String threes, int... terms) {
        expect.same("found with 1 at " + threes, Integer.parseInt(threes, 3),
            Samples.polynomial(2, terms).find(1));
    }

    private void findWith1() {
        expect.about(Sentence.FIND);
        foundWith1At("011111", 0, 0, 1, 0, 4, 1, 1, 0, 2, 2, 0, 3, 3, 0, 2, 4, 0, 1);
        foundWith1At("101111", 0, 0, 1, 0, 1, 2, 0, 2, 1, 0, 4, 1, 2, 0, 1, 3, 0, 2, 4, 0, 1);
        foundWith1At("111110", 0, 0, 1, 0, 4, 1, 1, 0, 4, 2, 0, 4, 2, 2, 1, 3, 1, 2, 4, 0, 1);
        foundWith1At("001110", 0, 0, 1, 0, 4, 1, 4, 0, 1);
        foundWith1At("000001", 0, 0, 1, 4, 0, 1, 0, 4, 1, 2, 2, 2, 1, 1, 1, 2, 0, 1, 0, 2, 1);
    }

    private void findBringsTableAndSquares() {
        expect.about(Sentence.FIND);
        SquareSums s = Samples.six();
        for (int i = 0; i < MEMBERS; i++) {
            for (int j = i; j < MEMBERS; j++) {
                s.put(i, j, 30);
            }
        }
        s.check();
        expect.same("found", 0, s.find(0));
        for (int i = 0; i < MEMBERS; i++) {
            for (int j = 0; j < MEMBERS; j++) {
                int due = i == j && (i == 0 || i == 3 || i == 5) ? 2 : 0;
                expect.same("the table at " + i + ", " + j, due, s.at(i, j));
            }
        }
        expect.same("squares without a check", 3, s.squares());
        expect.fraction("a weight", 1, 1, s.weight(2, 0), s.weight(2, 1));
        expect.same("a row", 1, s.row(2, 5, 0));
        expect.same("check agrees", 0, s.check());
    }

    private void findNone() {
        expect.about(Sentence.FIND_NONE);
        SquareSums found = Samples.polynomial(1, 4, 0, 1, 2, 0, -1, 0, 0, 1);
        found.find(1);
        asItWas("squares there", found, 0);
        SquareSums checked = three();
        asItWas("three squares there", checked, 0);
        SquareSums written = Samples.quadratic(2, 3);
        asItWas("no squares there", written, 2);
        written.check();
        asItWas("check answered 2", written, 2);
        SquareSums wrong = Samples.quadratic(2, 3);
        wrong.put(0, 0, 30);
        wrong.check();
        asItWas("check answered 1", wrong, 1);
        asItWas("no members", Samples.polynomial(1, 1, 0, 1), 2);
        SquareSums barred = Samples.polynomial(2, 4, 0, -1, 0, 4, 1, 0, 0, 1);
        barred.put(3, 3, 5);
        asItWas("a corner below 0", barred, 2);
    }

    /** 4 - 2 x2 + 4 x4 with -3 for 1 and x2; none is found with 0. */
    private static SquareSums three() {
        SquareSums s = Samples.withThree(new int[][] {{8, 0, -3}, {0, 2, 0}, {-3, 0, 8}});
        s.check();
        return s;
    }

    private void asItWas(String what, SquareSums s, int most) {
        String ahead = Snapshot.of(s);
        expect.same(what + ": none", -1, s.find(most));
        expect.text(what + ": all", ahead, Snapshot.of(s));
    }

    private void findRefused() {
        expect.about(Sentence.FIND_REFUSED);
        SquareSums s = Samples.polynomial(1, 4, 0, 1, 2, 0, -1, 0, 0, 1);
        s.find(1);
        for (int most : new int[] {MIN, -3, -2, -1, 3, 4, 256, MAX}) {
            String ahead = Snapshot.of(checked(Samples.quadratic(1, 3)));
            SquareSums q = checked(Samples.quadratic(1, 3));
            expect.fails("most " + most, Expect.ARGUMENT, () -> q.find(most));
            expect.text("all as it was", ahead, Snapshot.of(q));
            expect.fails("no members, most " + most, Expect.ARGUMENT, () -> new SquareSums(2).find(most));
            expect.fails("a term that no pair has, most " + most, Expect.ARGUMENT,
                () -> Samples.polynomial(1, 1, 0, 1).find(most));
            expect.fails("found already, most " + most, Expect.ARGUMENT, () -> s.find(most));
        }
        expect.same("the last ones that are right", -1, s.find(0));
        expect.same("the last ones that are right, 2", 0, s.find(2));
    }

    private void value() {
        expect.about(Sentence.VALUE);
        SquareSums all = new SquareSums(2);
        SquareSums below = new SquareSums(2);
        for (int a = 0; a <= HIGHEST; a++) {
            for (int b = 0; a + b <= HIGHEST; b++) {
                all.term(a, b, 15);
                below.term(a, b, -15);
            }
        }
        expect.same("the greatest of all", 7560453015L, all.value(100, 100));
        expect.same("the least of all", -7560453015L, below.value(100, 100));
        expect.same("both below 0", 7440447015L, all.value(-100, -100));
        expect.same("at 0, 0", 15, all.value(0, 0));
        expect.same("x alone", 1515151515L, all.value(100, 0));
        expect.same("y alone", 1515151515L, all.value(0, 100));
        expect.same("x alone, below 0", 15L * (1 - 100 + 10000 - 1000000 + 100000000), all.value(-100, 0));
        expect.same("of 0", 0, new SquareSums(2).value(-100, 100));
        SquareSums one = Samples.polynomial(1, 4, 0, 15, 3, 0, -15, 0, 0, 1);
        for (int y : new int[] {MIN, -101, -100, -1, 0, 1, 100, 101, MAX}) {
            expect.same("y isn't looked at: " + y, 1500000000L - 15000000 + 1, one.value(100, y));
            expect.same("y isn't looked at, x below 0: " + y, 1500000000L + 15000000 + 1, one.value(-100, y));
            expect.same("y isn't looked at, of 0: " + y, 0, new SquareSums(1).value(7, y));
        }
    }

    private void valueRefused() {
        expect.about(Sentence.VALUE_REFUSED);
        SquareSums two = Samples.polynomial(2, 1, 0, 1, 0, 1, 2);
        SquareSums one = Samples.polynomial(1, 1, 0, 1);
        for (int v : new int[] {MIN, MIN + 1, -102, -101, 101, 102, MAX}) {
            expect.fails("x " + v, Expect.ARGUMENT, () -> two.value(v, 0));
            expect.fails("y " + v, Expect.ARGUMENT, () -> two.value(0, v));
            expect.fails("both " + v, Expect.ARGUMENT, () -> two.value(v, v));
            expect.fails("x of one unknown " + v, Expect.ARGUMENT, () -> one.value(v, 0));
            expect.fails("both of one unknown " + v, Expect.ARGUMENT, () -> one.value(v, v));
            expect.fails("x of 0 " + v, Expect.ARGUMENT, () -> new SquareSums(2).value(v, 0));
            expect.fails("y of 0 " + v, Expect.ARGUMENT, () -> new SquareSums(2).value(0, v));
        }
        expect.same("the last ones that are right", 100 - 200, two.value(100, -100));
        expect.same("the first ones that are right", -100 + 200, two.value(-100, 100));
        expect.same("the last of one unknown", 100, one.value(100, 0));
        expect.same("the first of one unknown", -100, one.value(-100, 0));
    }

    private void count() {
        expect.about(Sentence.COUNT);
        SquareSums none = new SquareSums(2);
        expect.same("no terms", 0, none.count(0));
        expect.same("no corners", 0, none.count(2));
        SquareSums all = Samples.allPowers();
        expect.same("all terms", 15, all.count(0));
        expect.same("two unknowns", 2, all.count(1));
        expect.same("three corners", 3, all.count(2));
        SquareSums one = Samples.polynomial(1, 0, 0, 1, 1, 0, -1, 2, 0, 1, 3, 0, 1, 4, 0, 1);
        expect.same("all terms of one unknown", 5, one.count(0));
        expect.same("one unknown", 1, one.count(1));
        expect.same("two corners", 2, one.count(2));
        for (int what : new int[] {MIN, -2, -1, 3, 4, 256, MAX}) {
            expect.same("another what: " + what, -1, all.count(what));
            expect.same("another what, of 0: " + what, -1, none.count(what));
        }
    }

    private void clear() {
        expect.about(Sentence.CLEAR);
        SquareSums s = checked(Samples.quadratic(1, 3));
        s.clear();
        isEmpty("checked and cleared", s);
        expect.same("unknowns are as they were", 1, s.count(1));
        SquareSums full = Samples.allPowers();
        for (int i = 0; i < MEMBERS; i++) {
            full.put(i, i, 30);
        }
        full.clear();
        isEmpty("full and cleared", full);
        expect.same("unknowns are still two", 2, full.count(1));
        full.term(4, 0, 1);
        full.term(0, 4, 1);
        full.term(0, 0, 1);
        for (int i = 0; i < MEMBERS; i++) {
            expect.same("no number comes back for " + i, 0, full.at(i, i));
        }
        expect.same("nor does a term", 3, full.count(0));
        SquareSums barred = Samples.polynomial(2, 3, 1, -1);
        barred.clear();
        isEmpty("barred and cleared", barred);
    }

    private void clearOf0() {
        expect.about(Sentence.CLEAR);
        SquareSums s = checked(new SquareSums(2));
        expect.same("squares of 0", 0, s.squares());
        s.clear();
        isEmpty("0, checked and cleared", s);
        expect.same("found again", 0, s.find(0));
        expect.same("squares of 0 again", 0, s.squares());
        s.clear();
        isEmpty("0, found and cleared", s);
        s.clear();
        isEmpty("cleared twice", s);
        expect.same("check of 0", 0, s.check());
        expect.same("squares of 0 at last", 0, s.squares());
    }
}
