/** Each promise of the document by itself, with answers worked out by hand. */
public final class PromisesTest {
    private static final int MAX = Integer.MAX_VALUE;
    private static final int MIN = Integer.MIN_VALUE;

    private final Expect expect = new Expect();

    public static void main(String[] args) {
        PromisesTest test = new PromisesTest();
        test.newObject();
        test.term();
        test.termChangesTableAndSquares();
        test.basis();
        test.member();
        test.put();
        test.at();
        test.check();
        test.squares();
        test.weight();
        test.row();
        test.free();
        test.find();
        test.findTriesInOrder();
        test.findLeavesAllIfNone();
        test.value();
        test.count();
        test.clear();
        test.expect.end();
    }

    private void newObject() {
        int[] one = {MIN, -7, -1, 0, 1};
        for (int unknowns : one) {
            SquareSums s = new SquareSums(unknowns);
            expect.same("1: unknowns of " + unknowns, 1, s.count(1));
            expect.fails("1: no y of " + unknowns, Expect.ARGUMENT, () -> Expect.bit(s.term(0, 1, 1)));
        }
        int[] two = {2, 3, 100, MAX};
        for (int unknowns : two) {
            SquareSums s = new SquareSums(unknowns);
            expect.same("1: unknowns of " + unknowns, 2, s.count(1));
            expect.yes("1: y of " + unknowns, s.term(0, 1, 1));
        }
        SquareSums s = new SquareSums(2);
        expect.same("1: terms", 0, s.count(0));
        expect.same("1: corners", 0, s.count(2));
        expect.same("1: basis", 0, s.basis());
        expect.same("1: free", 0, s.free());
        expect.same("1: value", 0, s.value(5, 7));
        expect.fails("1: squares", Expect.STATE, s::squares);
        expect.fails("1: members", Expect.INDEX, () -> s.member(0, 0));
    }

    private void term() {
        SquareSums s = new SquareSums(2);
        expect.no("2: 0 is there already", s.term(1, 1, 0));
        expect.yes("2: another one", s.term(1, 1, 15));
        expect.no("2: the same", s.term(1, 1, 15));
        expect.yes("2: another one again", s.term(1, 1, -15));
        expect.yes("2: back to 0", s.term(1, 1, 0));
        expect.same("2: no term then", 0, s.count(0));
        for (int a = 0; a <= 4; a++) {
            for (int b = 0; a + b <= 4; b++) {
                expect.yes("2: power " + a + ", " + b, s.term(a, b, 1));
            }
        }
        expect.same("2: all powers", 15, s.count(0));
        int[][] wrong = {{-1, 0, 1}, {0, -1, 1}, {5, 0, 1}, {0, 5, 1}, {4, 1, 1}, {2, 3, 1}, {-1, 2, 1},
            {MAX, MAX, 1}, {MIN, MIN, 1}, {MAX, 0, 1}, {MIN, 0, 1}, {MAX, MIN, 1}, {5, -1, 1}, {-1, 5, 1},
            {0, 0, 16}, {0, 0, -16}, {0, 0, MAX}, {0, 0, MIN}};
        for (int[] w : wrong) {
            expect.fails("2: term(" + w[0] + ", " + w[1] + ", " + w[2] + ")", Expect.ARGUMENT,
                () -> Expect.bit(s.term(w[0], w[1], w[2])));
        }
        expect.same("2: all powers still, each 1", 15, s.value(1, 1));
        SquareSums one = new SquareSums(1);
        for (int a = 0; a <= 4; a++) {
            expect.yes("2: one unknown " + a, one.term(a, 0, 2));
        }
        expect.fails("2: one unknown, 5", Expect.ARGUMENT, () -> Expect.bit(one.term(5, 0, 1)));
        expect.fails("2: one unknown, y", Expect.ARGUMENT, () -> Expect.bit(one.term(0, 1, 0)));
    }

    private void termChangesTableAndSquares() {
        SquareSums s = Samples.quadratic(1, 3);
        expect.same("2: check", 0, s.check());
        expect.no("2: same number", s.term(2, 0, 1));
        expect.fails("2: wrong number", Expect.ARGUMENT, () -> Expect.bit(s.term(2, 0, 16)));
        expect.same("2: squares stay", 2, s.squares());
        expect.same("2: table stays", 6, s.at(0, 0));
        expect.yes("2: another number", s.term(2, 0, 2));
        expect.fails("2: squares are gone", Expect.STATE, s::squares);
        for (int i = 0; i < 2; i++) {
            for (int j = 0; j < 2; j++) {
                expect.same("2: table " + i + ", " + j, 0, s.at(i, j));
            }
        }
        SquareSums back = Samples.quadratic(1, 3);
        back.check();
        back.term(2, 0, 2);
        back.term(2, 0, 1);
        expect.fails("2: squares don't come back", Expect.STATE, back::squares);
        expect.same("2: nor does the table", 0, back.at(0, 0));
    }

    private void basis() {
        expect.same("3: six", 6, Samples.six().basis());
        expect.same("3: x2", 1, Samples.polynomial(2, 2, 0, 5).basis());
        expect.same("3: x2 + 1", 2, Samples.polynomial(2, 2, 0, 5, 0, 0, 1).basis());
        expect.same("3: x4 + 1", 3, Samples.polynomial(1, 4, 0, 1, 0, 0, 1).basis());
        expect.same("3: x2 y2 + 1", 2, Samples.polynomial(2, 2, 2, 1, 0, 0, 1).basis());
        expect.same("3: x4 - x2 + 1, the middle no corner", 3,
            Samples.polynomial(1, 4, 0, 1, 2, 0, -1, 0, 0, 1).basis());
        expect.same("3: x4 + x3 + x2", 2, Samples.polynomial(1, 4, 0, 1, 3, 0, 1, 2, 0, 1).basis());
        expect.same("3: x4 + y4", 3, Samples.polynomial(2, 4, 0, 1, 0, 4, 1).basis());
        expect.same("3: x4 + y2 + 1", 4, Samples.polynomial(2, 4, 0, 1, 0, 2, 1, 0, 0, 1).basis());
        expect.same("3: x4 + x2 y2 + y2 + 1", 5,
            Samples.polynomial(2, 4, 0, 1, 2, 2, 1, 0, 2, 1, 0, 0, 1).basis());
        expect.same("3: inside negative", 6,
            Samples.polynomial(2, 4, 0, 1, 0, 4, 1, 0, 0, 1, 1, 1, -9, 1, 2, -9).basis());
        expect.same("3: x", -1, Samples.polynomial(1, 1, 0, 1).basis());
        expect.same("3: -x2", -1, Samples.polynomial(1, 2, 0, -1).basis());
        expect.same("3: x4 + x3", -1, Samples.polynomial(1, 4, 0, 1, 3, 0, 1).basis());
        expect.same("3: x4 - 1", -1, Samples.polynomial(1, 4, 0, 1, 0, 0, -1).basis());
        expect.same("3: odd b alone", -1, Samples.polynomial(2, 0, 4, 1, 2, 1, 1, 0, 0, 1).basis());
        expect.same("3: odd a alone", -1, Samples.polynomial(2, 4, 0, 1, 1, 2, 1, 0, 0, 1).basis());
        SquareSums odd = Samples.polynomial(2, 3, 1, 1, 1, 3, 1);
        expect.same("3: x3 y + x y3", -1, odd.basis());
        expect.members("3: as said then, too:", odd, 1, 1);
    }

    private void member() {
        expect.members("4: six", Samples.six(), 0, 0, 1, 0, 0, 1, 2, 0, 1, 1, 0, 2);
        expect.members("4: x4 + y4", Samples.polynomial(2, 4, 0, 1, 0, 4, 1), 2, 0, 1, 1, 0, 2);
        expect.members("4: x2 + y2", Samples.polynomial(2, 2, 0, 1, 0, 2, 1), 1, 0, 0, 1);
        expect.members("4: x4 + y2 + 1", Samples.polynomial(2, 4, 0, 1, 0, 2, 1, 0, 0, 1), 0, 0, 1, 0, 0, 1, 2, 0);
        expect.members("4: x4 + x3", Samples.polynomial(1, 4, 0, 1, 3, 0, 1), 2, 0);
        expect.members("4: x4 + y4 + x", Samples.polynomial(2, 4, 0, 1, 0, 4, 1, 1, 0, 1), 1, 0, 2, 0, 1, 1, 0, 2);
        expect.members("4: x", Samples.polynomial(1, 1, 0, 1));
        SquareSums s = Samples.six();
        int[] wrong = {-1, 6, MIN, MAX};
        for (int k : wrong) {
            expect.fails("4: member " + k, Expect.INDEX, () -> s.member(k, 0));
            expect.fails("4: member and letter " + k, Expect.INDEX, () -> s.member(k, k));
        }
        int[] letters = {-1, 2, MIN, MAX};
        for (int letter : letters) {
            expect.fails("4: letter " + letter, Expect.ARGUMENT, () -> s.member(5, letter));
        }
    }

    private void put() {
        SquareSums s = Samples.six();
        expect.no("5: 0 is there already", s.put(3, 4, 0));
        expect.yes("5: another one", s.put(3, 4, 30));
        expect.no("5: the same", s.put(3, 4, 30));
        expect.no("5: the same for j, i", s.put(4, 3, 30));
        expect.yes("5: another one for j, i", s.put(4, 3, -30));
        expect.no("5: the same for i, j", s.put(3, 4, -30));
        int[] wrongMembers = {-1, 6, MIN, MAX};
        for (int k : wrongMembers) {
            expect.fails("5: i " + k, Expect.INDEX, () -> Expect.bit(s.put(k, 0, 1)));
            expect.fails("5: j " + k, Expect.INDEX, () -> Expect.bit(s.put(0, k, 1)));
            expect.fails("5: i and number " + k, Expect.INDEX, () -> Expect.bit(s.put(k, 0, 31)));
            expect.fails("5: j and number " + k, Expect.INDEX, () -> Expect.bit(s.put(0, k, 31)));
        }
        int[] wrongNumbers = {-31, 31, MIN, MAX};
        for (int v : wrongNumbers) {
            expect.fails("5: number " + v, Expect.ARGUMENT, () -> Expect.bit(s.put(0, 0, v)));
        }
        expect.same("5: nothing changed", 0, s.at(0, 0));
        SquareSums kept = Samples.quadratic(0, 1);
        expect.same("5: check", 0, kept.check());
        expect.no("5: the same number", kept.put(0, 0, 2));
        expect.fails("5: wrong number", Expect.ARGUMENT, () -> Expect.bit(kept.put(0, 0, 31)));
        expect.same("5: squares stay", 2, kept.squares());
        expect.yes("5: another number", kept.put(0, 0, 3));
        expect.fails("5: squares are gone", Expect.STATE, kept::squares);
        expect.yes("5: back again", kept.put(0, 0, 2));
        expect.fails("5: squares stay away", Expect.STATE, kept::squares);
    }

    private void at() {
        SquareSums s = Samples.six();
        int v = -10;
        for (int i = 0; i < 6; i++) {
            for (int j = i; j < 6; j++) {
                expect.same("6: 0 at first", 0, s.at(i, j));
                s.put(j, i, v);
                v++;
            }
        }
        v = -10;
        for (int i = 0; i < 6; i++) {
            for (int j = i; j < 6; j++) {
                expect.same("6: at " + i + ", " + j, v, s.at(i, j));
                expect.same("6: at " + j + ", " + i, v, s.at(j, i));
                v++;
            }
        }
        int[] wrong = {-1, 6, MIN, MAX};
        for (int k : wrong) {
            expect.fails("6: i " + k, Expect.INDEX, () -> s.at(k, 0));
            expect.fails("6: j " + k, Expect.INDEX, () -> s.at(0, k));
        }
        SquareSums few = Samples.polynomial(2, 2, 0, 1);
        expect.fails("6: just one member", Expect.INDEX, () -> few.at(0, 1));
    }

    private void check() {
        expect.same("7: the polynomial 0", 0, new SquareSums(1).check());
        expect.same("7: no members, but a term", 1, Samples.polynomial(1, 1, 0, 1).check());
        SquareSums s = Samples.quadratic(1, 3);
        expect.same("7: good", 0, s.check());
        expect.same("7: again", 0, s.check());
        s.put(0, 1, 1);
        expect.same("7: doesn't make it", 1, s.check());
        s.put(0, 1, 2);
        expect.same("7: makes it again", 0, s.check());
        expect.same("7: makes it, number below 0 by steps", 2, Samples.quadratic(2, 3).check());
        expect.same("7: makes it, 0 left at the end", 0, Samples.quadratic(1, 1).check());

        SquareSums zero = Samples.polynomial(1, 4, 0, 1, 3, 0, 2, 0, 0, 1);
        zero.put(0, 0, 2);
        zero.put(1, 2, 2);
        zero.put(2, 2, 2);
        expect.same("7: 0 with another number behind it", 2, zero.check());
        zero.term(3, 0, 0);
        zero.put(0, 0, 2);
        zero.put(2, 2, 2);
        expect.same("7: 0 with nothing behind it", 0, zero.check());
        expect.same("7: 0 is no square", 2, zero.squares());

        SquareSums below = Samples.polynomial(1, 2, 0, -1, 0, 0, 1);
        below.put(0, 0, 2);
        below.put(1, 1, -2);
        expect.same("7: below 0 at once", 2, below.check());
        SquareSums shared = Samples.polynomial(2, 4, 0, 1, 0, 4, 1, 2, 2, 2);
        shared.put(0, 0, 2);
        shared.put(2, 2, 2);
        shared.put(1, 1, 4);
        expect.same("7: x2 y2 from one pair", 0, shared.check());
        shared.put(1, 1, 2);
        expect.same("7: x2 y2 too small", 1, shared.check());
        shared.put(0, 2, 1);
        expect.same("7: x2 y2 from two pairs", 0, shared.check());
    }

    private void squares() {
        SquareSums s = Samples.quadratic(1, 3);
        expect.fails("8: ahead of any check", Expect.STATE, s::squares);
        s.check();
        expect.same("8: two", 2, s.squares());
        SquareSums one = Samples.quadratic(1, 1);
        one.check();
        expect.same("8: one", 1, one.squares());
        SquareSums none = new SquareSums(2);
        none.check();
        expect.same("8: none of the polynomial 0", 0, none.squares());
        SquareSums failing = Samples.quadratic(2, 3);
        failing.check();
        expect.fails("8: after 2", Expect.STATE, failing::squares);
        failing.put(0, 0, 0);
        failing.check();
        expect.fails("8: after 1", Expect.STATE, failing::squares);
        SquareSums found = Samples.polynomial(1, 2, 0, 1, 0, 0, 1);
        found.find(0);
        expect.same("8: after find", 2, found.squares());
        SquareSums six = Samples.polynomial(2, 0, 0, 1, 2, 0, 1, 0, 2, 1, 4, 0, 1, 2, 2, 1, 0, 4, 1);
        expect.same("8: find all six", 0, six.find(0));
        expect.same("8: all six", 6, six.squares());
    }

    private void weight() {
        SquareSums s = Samples.quadratic(1, 3);
        expect.fails("9: ahead of any check", Expect.STATE, () -> s.weight(0, 0));
        expect.fails("9: state goes first", Expect.STATE, () -> s.weight(-1, 2));
        s.check();
        expect.fraction("9: 3", 3, 1, s.weight(0, 0), s.weight(0, 1));
        expect.fraction("9: 2/3", 2, 3, s.weight(1, 0), s.weight(1, 1));
        int[] wrong = {-1, 2, MIN, MAX};
        for (int k : wrong) {
            expect.fails("9: square " + k, Expect.INDEX, () -> s.weight(k, 0));
            expect.fails("9: square goes ahead of part " + k, Expect.INDEX, () -> s.weight(k, k));
            expect.fails("9: part " + k, Expect.ARGUMENT, () -> s.weight(0, k));
        }
        s.put(0, 0, 5);
        expect.fails("9: after a change", Expect.STATE, () -> s.weight(0, 0));
        SquareSums halves = Samples.polynomial(1, 4, 0, 1, 2, 0, -1, 0, 0, 1);
        expect.same("9: find", 0, halves.find(1));
        expect.fraction("9: 1", 1, 1, halves.weight(0, 0), halves.weight(0, 1));
        expect.fraction("9: 3/4, a 0 left out between", 3, 4, halves.weight(1, 0), halves.weight(1, 1));
        SquareSums three = Samples.polynomial(1, 4, 0, 1, 3, 0, 1, 2, 0, 1, 1, 0, 1, 0, 0, 1);
        expect.same("9: find three", 0, three.find(0));
        expect.fraction("9: first of three", 1, 1, three.weight(0, 0), three.weight(0, 1));
        expect.fraction("9: second of three", 3, 4, three.weight(1, 0), three.weight(1, 1));
        expect.fraction("9: third of three", 2, 3, three.weight(2, 0), three.weight(2, 1));
        expect.fraction("10: row of the second of three", 2, 3, three.row(1, 2, 0), three.row(1, 2, 1));
        SquareSums odd = Samples.polynomial(2, 4, 0, 1, 2, 2, 1, 0, 4, 1);
        odd.put(0, 0, 2);
        odd.put(2, 2, 2);
        odd.put(0, 2, 1);
        expect.same("9: check", 0, odd.check());
        expect.fraction("9: 3/4 again", 3, 4, odd.weight(1, 0), odd.weight(1, 1));
    }

    private void row() {
        SquareSums s = Samples.quadratic(-1, 3);
        expect.fails("10: ahead of any check", Expect.STATE, () -> s.row(0, 0, 0));
        expect.fails("10: state goes first", Expect.STATE, () -> s.row(-1, 9, 2));
        s.check();
        expect.fraction("10: row 0, 0", 1, 1, s.row(0, 0, 0), s.row(0, 0, 1));
        expect.fraction("10: row 0, 1", -1, 3, s.row(0, 1, 0), s.row(0, 1, 1));
        expect.fraction("10: row 1, 0, ahead", 0, 1, s.row(1, 0, 0), s.row(1, 0, 1));
        expect.fraction("10: row 1, 1", 1, 1, s.row(1, 1, 0), s.row(1, 1, 1));
        int[] wrong = {-1, 2, MIN, MAX};
        for (int k : wrong) {
            expect.fails("10: square " + k, Expect.INDEX, () -> s.row(k, 0, 0));
            expect.fails("10: member " + k, Expect.INDEX, () -> s.row(0, k, 0));
            expect.fails("10: square goes ahead of part " + k, Expect.INDEX, () -> s.row(k, 0, k));
            expect.fails("10: member goes ahead of part " + k, Expect.INDEX, () -> s.row(0, k, k));
            expect.fails("10: part " + k, Expect.ARGUMENT, () -> s.row(0, 0, k));
        }
        s.put(1, 1, 3);
        expect.fails("10: after a change", Expect.STATE, () -> s.row(0, 0, 0));
        SquareSums one = Samples.quadratic(1, 1);
        one.check();
        expect.fraction("10: a member without a square", 1, 1, one.row(0, 1, 0), one.row(0, 1, 1));
        expect.fails("10: no square of it", Expect.INDEX, () -> one.row(1, 1, 0));
        SquareSums gap = Samples.polynomial(1, 4, 0, 1, 2, 0, -1, 0, 0, 1);
        gap.find(1);
        expect.fraction("10: behind a 0 left out", -1, 2, gap.row(0, 2, 0), gap.row(0, 2, 1));
        expect.fraction("10: the 0 left out", 0, 1, gap.row(1, 1, 0), gap.row(1, 1, 1));
        expect.fraction("10: the second square's own", 1, 1, gap.row(1, 2, 0), gap.row(1, 2, 1));
    }

    private void free() {
        expect.same("11: six", 6, Samples.six().free());
        expect.same("11: 1, x, x2", 1, Samples.polynomial(1, 4, 0, 1, 0, 0, 1).free());
        expect.same("11: 1, x", 0, Samples.polynomial(1, 2, 0, 1, 0, 0, 1).free());
        expect.same("11: 1, x, y", 0, Samples.polynomial(2, 2, 0, 1, 0, 2, 1, 0, 0, 1).free());
        expect.same("11: x2, x y, y2", 1, Samples.polynomial(2, 4, 0, 1, 0, 4, 1).free());
        expect.same("11: 1, x, y, x2", 1, Samples.polynomial(2, 4, 0, 1, 0, 2, 1, 0, 0, 1).free());
        // Of 1, x, y, x y the power x y is 1 times x y and x times y, neither of them a square.
        expect.same("11: 1, x, y, x y", 1, Samples.polynomial(2, 0, 0, 1, 2, 0, 1, 0, 2, 1, 2, 2, 1).free());
        expect.same("11: also if there is an odd corner", 0, Samples.polynomial(2, 3, 1, 1, 1, 3, 1).free());
        expect.same("11: none at all", 0, Samples.polynomial(1, 1, 0, 1).free());
    }

    private void find() {
        SquareSums none = new SquareSums(2);
        expect.same("12: of the polynomial 0", 0, none.find(2));
        expect.same("12: its squares", 0, none.squares());
        SquareSums s = Samples.quadratic(1, 3);
        s.put(0, 0, -5);
        expect.same("12: the only table", 0, s.find(2));
        expect.same("12: it is the table", 6, s.at(0, 0));
        expect.same("12: all of it", 2, s.at(1, 0));
        expect.same("12: squares", 2, s.squares());
        expect.same("12: check agrees", 0, s.check());
        expect.same("12: a term that no pair has", -1, Samples.polynomial(1, 1, 0, 1).find(2));
        expect.same("12: below 0 somewhere", -1, Samples.quadratic(2, 3).find(2));
        int[] wrong = {-1, 3, MIN, MAX};
        for (int most : wrong) {
            expect.fails("12: most " + most, Expect.ARGUMENT, () -> s.find(most));
            expect.fails("12: most of 0 " + most, Expect.ARGUMENT, () -> new SquareSums(1).find(most));
        }
        expect.same("12: squares stay", 2, s.squares());
    }

    private void findTriesInOrder() {
        // 15 x2 takes 30 - 2 times the free number: 34 and 32 don't fit.
        SquareSums full = Samples.polynomial(1, 4, 0, 1, 2, 0, 15, 0, 0, 1);
        expect.same("12: two that don't fit", 2, full.find(2));
        expect.same("12: one that doesn't fit", 1, full.find(1));
        expect.same("12: the first one fits", 0, full.find(0));
        expect.same("12: 30 fits", 30, full.at(1, 1));
        // 1, x, y, x y: the power x y hangs at 0, 3, and 1, 2 is free.
        SquareSums cross = Samples.polynomial(2, 0, 0, 1, 2, 0, 1, 0, 2, 1, 2, 2, 1);
        expect.same("12: free from -2 on", 0, cross.find(2));
        expect.same("12: free number", -2, cross.at(1, 2));
        expect.same("12: the first one hangs", 2, cross.at(0, 3));
        cross.term(1, 1, 1);
        expect.same("12: the first one hangs too high", 1, cross.find(2));
        expect.same("12: free number then", -1, cross.at(1, 2));
        expect.same("12: the first one then", 2, cross.at(0, 3));
        // 3 x y hang together: with -1 it's 4 and too much, with 1 it's 2.
        cross.term(1, 1, 3);
        expect.same("12: just the last but one", 3, cross.find(2));
        expect.same("12: both", 3, cross.at(1, 2) + cross.at(0, 3));
        cross.term(1, 1, 4);
        expect.same("12: just the last one", 4, cross.find(2));
        expect.same("12: not with less", -1, cross.find(1));
        cross.term(1, 1, 5);
        expect.same("12: none", -1, cross.find(2));
        SquareSums last = Samples.polynomial(2, 4, 0, 1, 0, 4, 1, 2, 2, -2);
        expect.same("12: x2 - y2 squared", 0, last.find(2));
        // All six free numbers must be 0 then, but for the last one, -2: told in fives, 222220.
        last.term(0, 0, 1);
        expect.same("12: x2 - y2 squared and 1", Integer.parseInt("222220", 5), last.find(2));
        expect.same("12: its last free number", -2, last.at(3, 5));
    }

    private void findLeavesAllIfNone() {
        SquareSums s = Samples.polynomial(1, 4, 0, 1, 2, 0, -1, 0, 0, 1);
        expect.same("12: none with 0", -1, s.find(0));
        expect.fails("12: no squares come", Expect.STATE, s::squares);
        expect.same("12: found with -1", 0, s.find(1));
        expect.same("12: none with 0 again", -1, s.find(0));
        expect.same("12: squares as they were", 2, s.squares());
        expect.fraction("12: weight as it was", 3, 4, s.weight(1, 0), s.weight(1, 1));
        expect.fraction("12: row as it was", -1, 2, s.row(0, 2, 0), s.row(0, 2, 1));
        expect.same("12: table as it was", -1, s.at(0, 2));
        s.put(0, 2, 7);
        expect.same("12: none, a table that makes nothing", -1, s.find(0));
        expect.same("12: that table as it was", 7, s.at(2, 0));
        expect.same("12: found with -2", 0, s.find(2));
        expect.same("12: the free number", -2, s.at(0, 2));
        expect.same("12: squares", 2, s.squares());
    }

    private void value() {
        SquareSums s = Samples.polynomial(2, 0, 0, -15, 1, 0, 2, 0, 1, 3, 3, 1, -4, 2, 2, 5, 0, 4, 6);
        expect.same("13: at 0, 0", -15, s.value(0, 0));
        expect.same("13: at 2, -3", -15 + 4 - 9 + 96 + 180 + 486, s.value(2, -3));
        expect.same("13: at -1, 1", -15 - 2 + 3 + 4 + 5 + 6, s.value(-1, 1));
        SquareSums most = new SquareSums(2);
        for (int a = 0; a <= 4; a++) {
            most.term(a, 4 - a, 15);
        }
        expect.same("13: beyond an int", 7500000000L, most.value(100, 100));
        expect.same("13: beyond an int, other signs", 1500000000L, most.value(-100, 100));
        SquareSums one = Samples.polynomial(1, 4, 0, -15, 1, 0, 1);
        expect.same("13: y isn't looked at", -1500000000L + 100, one.value(100, MAX));
        expect.same("13: y isn't looked at, below 0", -1500000000L - 100, one.value(-100, MIN));
        int[] wrong = {-101, 101, MIN, MAX};
        for (int v : wrong) {
            expect.fails("13: x " + v, Expect.ARGUMENT, () -> s.value(v, 0));
            expect.fails("13: y " + v, Expect.ARGUMENT, () -> s.value(0, v));
            expect.fails("13: x of one unknown " + v, Expect.ARGUMENT, () -> one.value(v, 0));
            expect.fails("13: x of 0 " + v, Expect.ARGUMENT, () -> new SquareSums(2).value(v, 0));
        }
    }

    private void count() {
        SquareSums s = Samples.polynomial(2, 4, 0, 1, 0, 4, 1, 0, 0, 1, 2, 2, -3, 1, 1, 5);
        expect.same("14: terms", 5, s.count(0));
        expect.same("14: unknowns", 2, s.count(1));
        expect.same("14: corners", 3, s.count(2));
        expect.same("14: on a side is no corner", 2, Samples.polynomial(2, 4, 0, 1, 2, 2, 1, 0, 4, 1).count(2));
        expect.same("14: one term is a corner", 1, Samples.polynomial(2, 1, 2, 1).count(2));
        expect.same("14: two terms are", 2, Samples.polynomial(2, 1, 2, 1, 3, 1, -1).count(2));
        expect.same("14: five corners", 5,
            Samples.polynomial(2, 0, 1, 1, 1, 0, 1, 3, 0, 1, 2, 2, 1, 0, 3, 1, 1, 1, 1, 2, 1, 1).count(2));
        expect.same("14: all powers", 3, Samples.allPowers().count(2));
        int[] other = {-1, 3, MIN, MAX};
        for (int what : other) {
            expect.same("14: what " + what, -1, s.count(what));
        }
    }

    private void clear() {
        SquareSums s = Samples.quadratic(1, 3);
        s.check();
        s.clear();
        expect.same("15: terms", 0, s.count(0));
        expect.same("15: corners", 0, s.count(2));
        expect.same("15: unknowns stay", 1, s.count(1));
        expect.same("15: basis", 0, s.basis());
        expect.same("15: value", 0, s.value(3, 0));
        expect.fails("15: squares are gone", Expect.STATE, s::squares);
        expect.fails("15: members are gone", Expect.INDEX, () -> s.at(0, 0));
        expect.yes("15: every term anew", s.term(2, 0, 1));
        expect.same("15: an empty table", 0, s.at(0, 0));
        SquareSums zero = new SquareSums(2);
        zero.check();
        expect.same("15: squares of 0", 0, zero.squares());
        zero.clear();
        expect.fails("15: gone, too", Expect.STATE, zero::squares);
        expect.same("15: check brings them back", 0, zero.check());
        expect.same("15: none", 0, zero.squares());
    }
}
