import java.util.EnumSet;

/** The edges of what the document's section "Terms" explains, one sentence after the other. */
public final class BoundariesOfTermsTest {
    private static final int MAX = Integer.MAX_VALUE;
    private static final int MIN = Integer.MIN_VALUE;
    private static final int HIGHEST = 4;
    private static final int MEMBERS = 6;

    // The pairs of six members that are free, in their order.
    private static final int[][] FREE = {{0, 3}, {0, 5}, {1, 2}, {2, 3}, {2, 4}, {3, 5}};

    private final Expect expect = new Expect();

    public static void main(String[] args) {
        BoundariesOfTermsTest test = new BoundariesOfTermsTest();
        test.calls();
        test.powers();
        test.powersOfOneUnknown();
        test.powersThatWrapAround();
        test.ahead();
        test.numbers();
        test.covered();
        test.corners();
        test.basis();
        test.table();
        test.makes();
        test.makesWithTheGreatest();
        test.stepsBelow();
        test.stepsAt0();
        test.stepsAbove();
        test.stepsWithTheLongestFractions();
        test.sumOfSquares();
        test.pairs();
        test.hangs();
        test.told();
        test.fractions();
        test.noSuch();
        test.expect.end(EnumSet.range(Sentence.CALLS, Sentence.NO_SUCH));
    }

    /** x squared + 1 with its table found, after 511 calls. */
    private SquareSums used() {
        SquareSums s = Samples.polynomial(1, 2, 0, 1, 0, 0, 1);
        int another = 0;
        for (int call = 3; call <= 510; call++) {
            if (s.put(0, 0, call % 2)) {
                another++;
            }
        }
        expect.same("calls up to the 510th", 508, another);
        expect.same("511th call", 0, s.find(0));
        return s;
    }

    private void calls() {
        expect.about(Sentence.CALLS);
        expect.yes("512th call, term", used().term(1, 0, 1));
        expect.same("512th call, basis", 2, used().basis());
        expect.same("512th call, member", 1, used().member(1, 0));
        expect.fails("512th call, no such member", Expect.INDEX, () -> used().member(2, 0));
        expect.yes("512th call, put", used().put(0, 0, 1));
        expect.same("512th call, at", 2, used().at(0, 0));
        expect.same("512th call, check", 0, used().check());
        expect.same("512th call, squares", 2, used().squares());
        expect.same("512th call, weight", 1, used().weight(1, 0));
        expect.same("512th call, row", 1, used().row(1, 1, 0));
        expect.same("512th call, free", 0, used().free());
        expect.same("512th call, find", 0, used().find(2));
        expect.same("512th call, value", 10, used().value(3, 0));
        expect.same("512th call, count", 2, used().count(0));
    }

    private void powers() {
        expect.about(Sentence.POWERS);
        SquareSums s = new SquareSums(2);
        for (int a = -2; a <= HIGHEST + 2; a++) {
            for (int b = -2; b <= HIGHEST + 2; b++) {
                int ofX = a;
                int ofY = b;
                boolean power = a >= 0 && b >= 0 && a + b <= HIGHEST;
                expect.text("term(" + a + ", " + b + ", 1)", power ? "1" : Expect.ARGUMENT.getName(),
                    Expect.outcome(() -> Expect.bit(s.term(ofX, ofY, 1))));
            }
        }
        expect.same("just so many powers", 15, s.count(0));
        // In a row of numbers each power must have a place of its own.
        for (int a = 0; a <= HIGHEST; a++) {
            for (int b = 0; a + b <= HIGHEST; b++) {
                long product = (long) Math.pow(3, a) * (long) Math.pow(5, b);
                expect.same("value of power " + a + ", " + b, product,
                    Samples.polynomial(2, a, b, 1).value(3, 5));
            }
        }
    }

    private void powersOfOneUnknown() {
        expect.about(Sentence.POWERS);
        SquareSums one = new SquareSums(1);
        for (int a = -1; a <= HIGHEST + 1; a++) {
            for (int b = -1; b <= HIGHEST + 1; b++) {
                int ofX = a;
                int ofY = b;
                boolean power = a >= 0 && a <= HIGHEST && b == 0;
                expect.text("one unknown, term(" + a + ", " + b + ", 1)",
                    power ? "1" : Expect.ARGUMENT.getName(),
                    Expect.outcome(() -> Expect.bit(one.term(ofX, ofY, 1))));
            }
        }
        expect.same("just so many powers of one unknown", 5, one.count(0));
    }

    private void powersThatWrapAround() {
        expect.about(Sentence.POWERS);
        int[][] wrong = {{MAX, MAX}, {MIN, MIN}, {MAX, MIN}, {MIN, MAX}, {MAX, MIN + 1}, {MAX, MIN + 5},
            {MIN + 4, MIN}, {MAX - 3, MIN + 4}, {MAX, 1}, {1, MAX}, {MAX, 0}, {0, MAX}, {MIN, 0}, {0, MIN},
            {256, 0}, {0, 256}, {65536, 0}, {0, 65536}, {257, -256}, {-1, 5}, {5, -1}, {-4, 8}};
        for (int unknowns = 1; unknowns <= 2; unknowns++) {
            SquareSums s = new SquareSums(unknowns);
            for (int[] w : wrong) {
                expect.fails("term(" + w[0] + ", " + w[1] + ", 1)", Expect.ARGUMENT,
                    () -> Expect.bit(s.term(w[0], w[1], 1)));
            }
            expect.same("no term has come", 0, s.count(0));
        }
    }

    private void ahead() {
        expect.about(Sentence.AHEAD);
        expect.members("all", Samples.six(), 0, 0, 1, 0, 0, 1, 2, 0, 1, 1, 0, 2);
        expect.members("the same a + b, 1", Samples.polynomial(2, 0, 2, 1, 2, 0, 1), 1, 0, 0, 1);
        expect.members("the same a + b, 2", Samples.polynomial(2, 0, 4, 1, 4, 0, 1), 2, 0, 1, 1, 0, 2);
        expect.members("less a + b, and a less", Samples.polynomial(2, 4, 0, 1, 0, 2, 1), 0, 1, 2, 0);
        expect.members("less a + b, and a more", Samples.polynomial(2, 0, 4, 1, 2, 0, 1), 1, 0, 0, 2);
        expect.members("1 and x y", Samples.polynomial(2, 2, 2, 1, 0, 0, 1), 0, 0, 1, 1);
    }

    private void numbers() {
        expect.about(Sentence.NUMBERS);
        for (int a = 0; a <= HIGHEST; a++) {
            for (int b = 0; a + b <= HIGHEST; b++) {
                numbersAt(a, b);
            }
        }
        SquareSums s = Samples.polynomial(2, 1, 1, 1);
        expect.same("1 is a term's", 1, s.count(0));
        s.term(1, 1, 0);
        expect.same("0 is no term's", 0, s.count(0));
        s.term(1, 1, -1);
        expect.same("-1 is a term's", 1, s.count(0));
        s.term(1, 0, -15);
        s.term(0, 1, 15);
        expect.same("three terms", 3, s.count(0));
        expect.same("all are terms", 15, Samples.allPowers().count(0));
    }

    private void numbersAt(int a, int b) {
        String what = "number at " + a + ", " + b + ": ";
        SquareSums s = new SquareSums(2);
        expect.fails(what + -16, Expect.ARGUMENT, () -> Expect.bit(s.term(a, b, -16)));
        expect.same(what + "0 still", 0, s.value(1, 1));
        expect.yes(what + -15, s.term(a, b, -15));
        expect.same(what + "-15 then", -15, s.value(1, 1));
        expect.fails(what + 16, Expect.ARGUMENT, () -> Expect.bit(s.term(a, b, 16)));
        expect.same(what + "-15 still", -15, s.value(1, 1));
        expect.yes(what + 15, s.term(a, b, 15));
        expect.same(what + "15 then", 15, s.value(1, 1));
        expect.fails(what + MIN, Expect.ARGUMENT, () -> Expect.bit(s.term(a, b, MIN)));
        expect.fails(what + MAX, Expect.ARGUMENT, () -> Expect.bit(s.term(a, b, MAX)));
    }

    private void covered() {
        expect.about(Sentence.COVERED);
        expect.members("one number 1, no other", Samples.polynomial(2, 2, 0, 1), 1, 0);
        expect.members("halves", Samples.polynomial(2, 4, 0, 1, 0, 4, 1), 2, 0, 1, 1, 0, 2);
        expect.members("2 and 1 thirds", Samples.polynomial(2, 3, 0, 1, 0, 0, 1), 0, 0, 1, 0);
        expect.members("2 and 1 thirds of x and x4: x2", Samples.polynomial(2, 1, 0, 1, 4, 0, 1), 1, 0, 2, 0);
        expect.members("2 and 1 thirds of x y3 and x4: x2 y2",
            Samples.polynomial(2, 4, 0, 1, 1, 3, 1, 0, 0, 1), 0, 0, 1, 0, 2, 0, 1, 1);
        expect.members("one number 0 of three", Samples.polynomial(2, 1, 1, 1, 4, 0, 1, 0, 4, 1),
            2, 0, 1, 1, 0, 2);
        expect.same("a half and two quarters", 3,
            Samples.polynomial(2, 0, 0, 1, 4, 0, 1, 0, 4, 1, 1, 1, 1).count(2));
        expect.same("three thirds", 3, Samples.polynomial(2, 0, 0, 1, 2, 1, 1, 1, 2, 1, 1, 1, 1).count(2));
        expect.same("it would take 1, a quarter and a quarter below 0", 4,
            Samples.polynomial(2, 1, 0, 1, 0, 1, 1, 4, 0, 1, 0, 4, 1).count(2));
        expect.members("it would take 2 and -1: 0, 0", Samples.polynomial(2, 2, 0, 1, 4, 0, 1), 1, 0, 2, 0);
        expect.members("it would take 2 and -1: 4, 0", Samples.polynomial(2, 0, 0, 1, 2, 0, 1), 0, 0, 1, 0);
        expect.members("just beyond a side: x y", Samples.polynomial(2, 0, 0, 1, 4, 0, 1, 0, 3, 1),
            0, 0, 1, 0, 0, 1, 2, 0);
        expect.members("just beyond a side: x", Samples.polynomial(2, 0, 0, 1, 3, 1, 1, 1, 3, 1), 0, 0, 1, 1);
        expect.members("just beyond a side: x and y", Samples.polynomial(2, 0, 0, 1, 2, 1, 1, 1, 2, 1), 0, 0);
        expect.members("half of one, no 1 together", Samples.polynomial(2, 4, 0, 1), 2, 0);
        expect.members("twice one, no 1 together", Samples.polynomial(2, 2, 0, 1), 1, 0);
        expect.members("two ones, no 1 together", Samples.polynomial(2, 2, 0, 1, 0, 2, 1), 1, 0, 0, 1);
        expect.members("no even point", Samples.polynomial(2, 1, 0, 1, 0, 1, 1));
    }

    private void corners() {
        expect.about(Sentence.CORNERS);
        expect.same("no term", 0, new SquareSums(2).count(2));
        for (int a = 0; a <= HIGHEST; a++) {
            for (int b = 0; a + b <= HIGHEST; b++) {
                expect.same("one term, no others: " + a + ", " + b, 1, Samples.polynomial(2, a, b, -1).count(2));
            }
        }
        expect.same("two terms", 2, Samples.polynomial(2, 1, 1, 1, 2, 2, 1).count(2));
        expect.same("halfway of two", 2, Samples.polynomial(2, 1, 1, 1, 2, 2, 1, 0, 0, 1).count(2));
        expect.same("a third of the way", 2, Samples.polynomial(2, 0, 3, 1, 1, 2, 1, 3, 0, 1).count(2));
        expect.same("just beside the way", 3, Samples.polynomial(2, 0, 3, 1, 2, 2, 1, 3, 0, 1).count(2));
        expect.same("inside", 3, Samples.polynomial(2, 0, 0, 1, 4, 0, 1, 0, 4, 1, 1, 2, -15).count(2));
        expect.same("four", 4, Samples.polynomial(2, 0, 0, 1, 1, 0, 1, 0, 1, 1, 1, 1, 1).count(2));
        expect.same("six, as many as can be", 6,
            Samples.polynomial(2, 1, 0, 1, 0, 1, 1, 2, 0, 1, 0, 2, 1, 2, 1, 1, 1, 2, 1).count(2));
        expect.same("six and one inside", 6,
            Samples.polynomial(2, 1, 0, 1, 0, 1, 1, 2, 0, 1, 0, 2, 1, 2, 1, 1, 1, 2, 1, 1, 1, 1).count(2));
        expect.same("all powers", 3, Samples.allPowers().count(2));
        expect.same("all powers of one unknown", 2,
            Samples.polynomial(1, 0, 0, 1, 1, 0, 1, 2, 0, 1, 3, 0, 1, 4, 0, 1).count(2));
    }

    private void basis() {
        expect.about(Sentence.BASIS);
        expect.members("0", new SquareSums(2));
        expect.members("0 of one unknown", new SquareSums(1));
        SquareSums s = Samples.six();
        s.term(0, 0, 0);
        s.term(4, 0, 0);
        s.term(0, 4, 0);
        expect.members("0 again", s);
        expect.same("0 again", 0, s.basis());
        expect.members("all six", Samples.six(), 0, 0, 1, 0, 0, 1, 2, 0, 1, 1, 0, 2);
        expect.members("all six, numbers below 0",
            Samples.polynomial(2, 4, 0, -1, 0, 4, -15, 0, 0, -1), 0, 0, 1, 0, 0, 1, 2, 0, 1, 1, 0, 2);
        expect.members("all powers", Samples.allPowers(), 0, 0, 1, 0, 0, 1, 2, 0, 1, 1, 0, 2);
        expect.members("all three of one unknown", Samples.polynomial(1, 4, 0, 1, 0, 0, 1), 0, 0, 1, 0, 2, 0);
        expect.members("a term of an odd power", Samples.polynomial(1, 3, 0, 1));
    }

    private void table() {
        expect.about(Sentence.TABLE);
        for (int i = 0; i < MEMBERS; i++) {
            for (int j = 0; j < MEMBERS; j++) {
                tableAt(i, j);
            }
        }
        SquareSums s = Samples.six();
        int v = -30;
        for (int i = 0; i < MEMBERS; i++) {
            for (int j = i; j < MEMBERS; j++) {
                s.put(j, i, v);
                v += 3;
            }
        }
        v = -30;
        for (int i = 0; i < MEMBERS; i++) {
            for (int j = i; j < MEMBERS; j++) {
                expect.same("a full table at " + i + ", " + j, v, s.at(i, j));
                expect.same("a full table at " + j + ", " + i, v, s.at(j, i));
                v += 3;
            }
        }
    }

    private void tableAt(int i, int j) {
        String what = "number for " + i + ", " + j + ": ";
        SquareSums s = Samples.six();
        expect.fails(what + -31, Expect.ARGUMENT, () -> Expect.bit(s.put(i, j, -31)));
        expect.same(what + "0 still", 0, s.at(i, j));
        expect.yes(what + -30, s.put(i, j, -30));
        expect.same(what + "-30 for j, i", -30, s.at(j, i));
        expect.fails(what + 31, Expect.ARGUMENT, () -> Expect.bit(s.put(i, j, 31)));
        expect.same(what + "-30 still", -30, s.at(i, j));
        expect.yes(what + 30, s.put(i, j, 30));
        expect.same(what + "30 for j, i", 30, s.at(j, i));
        expect.no(what + "30 is there for j, i", s.put(j, i, 30));
    }

    private void makes() {
        expect.about(Sentence.MAKES);
        expect.same("no members make 0", 0, new SquareSums(2).check());
        expect.same("no members make no term", 1, Samples.polynomial(1, 3, 0, 1).check());
        SquareSums s = Samples.polynomial(1, 2, 0, 1, 0, 0, 1);
        expect.same("a table of 0 makes no term", 1, s.check());
        s.put(1, 1, 2);
        int[][] halves = {{1, 1}, {2, 0}, {3, 1}, {-2, 1}, {0, 1}};
        for (int[] half : halves) {
            s.put(0, 0, half[0]);
            expect.same("half of " + half[0] + " for 1", half[1], s.check());
        }
        SquareSums twice = Samples.quadratic(1, 2);
        expect.same("2 for 0, 1 and for 1, 0 make 2", 0, twice.check());
        twice.put(0, 1, 1);
        expect.same("1 for 0, 1 and for 1, 0 make 1", 1, twice.check());
        SquareSums beyond = Samples.polynomial(1, 3, 0, 1, 0, 0, 1);
        beyond.put(0, 0, 2);
        expect.same("no members make x3", 1, beyond.check());
        SquareSums undone = Samples.withThree(new int[][] {{2, 0, -1}, {0, 2, 0}, {-1, 0, 2}});
        expect.same("numbers that make 0 together", 0, undone.value(1, 0) - 2);
        expect.same("they make it", 0, undone.check());
        undone.put(1, 1, 4);
        expect.same("a power that is no term is made", 1, undone.check());
        undone.put(0, 2, -2);
        expect.same("and is not any more", 0, undone.check());
    }

    private void makesWithTheGreatest() {
        expect.about(Sentence.MAKES);
        SquareSums high = Samples.polynomial(1, 2, 0, 15, 0, 0, 15, 1, 0, 15);
        high.put(0, 0, 30);
        high.put(1, 1, 30);
        high.put(0, 1, 15);
        expect.same("30 makes 15", 0, high.check());
        high.put(0, 1, 14);
        expect.same("14 doesn't", 1, high.check());
        SquareSums low = Samples.polynomial(1, 2, 0, -15, 0, 0, -15, 1, 0, -15);
        low.put(0, 0, -30);
        low.put(1, 1, -30);
        low.put(0, 1, -15);
        expect.same("-30 makes -15, but that fails", 2, low.check());
        low.put(0, 0, -29);
        expect.same("-29 doesn't", 1, low.check());
        SquareSums full = Samples.allPowers();
        for (int i = 0; i < MEMBERS; i++) {
            for (int j = i; j < MEMBERS; j++) {
                full.put(i, j, 30);
            }
        }
        expect.same("30 all over makes more than any polynomial has", 1, full.check());
    }

    private void stepsBelow() {
        expect.about(Sentence.STEPS_BELOW);
        expect.same("the first, -2", 2, checkOfThree(-2, 0, 0, 2, 0, 2));
        expect.same("the first, 2", 0, checkOfThree(2, 0, 0, 2, 0, 2));
        expect.same("the second, -2", 2, checkOfThree(2, 0, 0, -2, 0, 2));
        expect.same("the second, 0", 0, checkOfThree(2, 0, 0, 0, 0, 2));
        expect.same("the last, -2", 2, checkOfThree(2, 0, 0, 2, 0, -2));
        expect.same("the last, -30", 2, checkOfThree(30, 0, 0, 30, 0, -30));
        expect.same("the last left, 28 - 29 * 29 / 30", 2, checkOfThree(30, 0, -29, 30, 0, 28));
        expect.same("the last left, 30 - 30 * 30 / 30", 0, checkOfThree(30, 0, -30, 30, 0, 30));
        expect.same("the last left, 14 - 19 * 19 / 26", 0, checkOfThree(26, 0, -19, 30, 0, 14));
        expect.same("the second left, 2 - 3 * 3 / 4", 2, checkOfThree(4, 3, 0, 2, 0, 2));
        expect.same("the second left, 4 - 3 * 3 / 4", 0, checkOfThree(4, 3, 0, 4, 0, 2));
        expect.same("the second left, 16 - 15 * 15 / 14", 2, checkOfTwo(14, 15, 16));
        expect.same("the second left, 16 - 15 * 15 / 16", 0, checkOfTwo(16, 15, 16));
        expect.same("the second left, 2 - 2 * 2 / 2", 0, checkOfTwo(2, 2, 2));
        for (int i = 0; i < MEMBERS; i++) {
            int[][] table = new int[MEMBERS][MEMBERS];
            for (int j = 0; j < MEMBERS; j++) {
                table[j][j] = j == i ? -2 : 2;
            }
            expect.same("of six number " + i, 2, Samples.withSix(table).check());
        }
    }

    /** A table of 1, x, row by row from its middle on. */
    private static int checkOfTwo(int t00, int t01, int t11) {
        SquareSums s = Samples.polynomial(1, 0, 0, t00 / 2, 1, 0, t01, 2, 0, t11 / 2);
        Samples.write(s, new int[][] {{t00, t01}, {t01, t11}});
        return s.check();
    }

    /** A table of 1, x, x squared, row by row from its middle on. */
    private static int checkOfThree(int t00, int t01, int t02, int t11, int t12, int t22) {
        return three(t00, t01, t02, t11, t12, t22).check();
    }

    private static SquareSums three(int t00, int t01, int t02, int t11, int t12, int t22) {
        return Samples.withThree(new int[][] {{t00, t01, t02}, {t01, t11, t12}, {t02, t12, t22}});
    }

    private void stepsAt0() {
        expect.about(Sentence.STEPS_AT_0);
        expect.same("0, 1 behind it", 2, checkOfThree(2, 0, 0, 0, 1, 2));
        expect.same("0, -1 behind it", 2, checkOfThree(2, 0, 0, 0, -1, 2));
        expect.same("0, 0 behind it", 0, checkOfThree(2, 0, 0, 0, 0, 2));
        expect.same("0 left, 0 left behind it", 0, checkOfThree(2, 2, 2, 2, 2, 2));
        expect.same("0 left, 0 in the table but -2 left behind it", 2, checkOfThree(2, 2, 2, 2, 0, 2));
        expect.same("0 left, 2 behind it", 2, checkOfThree(2, 2, 0, 2, 2, 8));
        expect.same("0 left at the end, nothing is behind it", 0, checkOfThree(2, 0, 2, 2, 0, 2));
        SquareSums nothing = three(2, 0, 0, 0, 0, 2);
        nothing.check();
        expect.same("nothing is done: no square", 2, nothing.squares());
        expect.fraction("nothing is done: the last is whole", 1, 1, nothing.weight(1, 0), nothing.weight(1, 1));
        expect.fraction("the last one's row", 0, 1, nothing.row(1, 1, 0), nothing.row(1, 1, 1));
        for (int[] pair : new int[][] {{1, 2, 0, 4}, {1, 4, 2, 3}, {1, 5, 2, 4}}) {
            int[][] table = new int[MEMBERS][MEMBERS];
            for (int i = 0; i < MEMBERS; i++) {
                table[i][i] = i == 1 ? 0 : 10;
            }
            expect.same("of six, 0 behind number 1", 0, Samples.withSix(table).check());
            setBoth(table, pair[0], pair[1], 1);
            setBoth(table, pair[2], pair[3], -1);
            expect.same("of six, 1 for 1, " + pair[1], 2, Samples.withSix(table).check());
        }
    }

    private static void setBoth(int[][] table, int i, int j, int v) {
        table[i][j] = v;
        table[j][i] = v;
    }

    private void stepsAbove() {
        expect.about(Sentence.STEPS_ABOVE);
        SquareSums s = three(26, 0, -19, 30, 0, 14);
        expect.same("check", 0, s.check());
        expect.same("just above 0 is a square", 3, s.squares());
        expect.fraction("half of 26", 13, 1, s.weight(0, 0), s.weight(0, 1));
        expect.fraction("half of 30", 15, 1, s.weight(1, 0), s.weight(1, 1));
        expect.fraction("half of 14 - 19 * 19 / 26", 3, 52, s.weight(2, 0), s.weight(2, 1));
        expect.fraction("row of 26, itself", 1, 1, s.row(0, 0, 0), s.row(0, 0, 1));
        expect.fraction("row of 26, 0", 0, 1, s.row(0, 1, 0), s.row(0, 1, 1));
        expect.fraction("row of 26, -19", -19, 26, s.row(0, 2, 0), s.row(0, 2, 1));
        expect.fraction("the last row, the first ahead", 0, 1, s.row(2, 0, 0), s.row(2, 0, 1));
        expect.fraction("the last row, the second ahead", 0, 1, s.row(2, 1, 0), s.row(2, 1, 1));
        expect.fraction("the last row, itself", 1, 1, s.row(2, 2, 0), s.row(2, 2, 1));
        SquareSums none = new SquareSums(2);
        none.check();
        expect.same("no members, no squares", 0, none.squares());
        SquareSums full = Samples.polynomial(2, 0, 0, 15, 2, 0, 15, 0, 2, 15, 4, 0, 15, 2, 2, 15, 0, 4, 15);
        full.find(0);
        expect.same("30 six times", 6, full.squares());
        for (int k = 0; k < MEMBERS; k++) {
            expect.fraction("30 six times, half of it", 15, 1, full.weight(k, 0), full.weight(k, 1));
            for (int i = 0; i < MEMBERS; i++) {
                expect.fraction("30 six times, row " + k, k == i ? 1 : 0, 1, full.row(k, i, 0), full.row(k, i, 1));
            }
        }
    }

    /** What is multiplied on the way is beyond an int by far. */
    private void stepsWithTheLongestFractions() {
        expect.about(Sentence.STEPS_ABOVE);
        int[][] table = {{30, 1, 0, 0, -1, -1}, {1, 30, -1, -1, 0, -1}, {0, -1, 30, -2, 2, 0},
            {0, -1, -2, 30, 3, 0}, {-1, 0, 2, 3, 30, -1}, {-1, -1, 0, 0, -1, 30}};
        SquareSums s = Samples.withSix(table);
        expect.same("high numbers all over", 0, s.check());
        expect.fraction("the longest weight", 708868803, 47416456, s.weight(5, 0), s.weight(5, 1));
        Fraction[][] left = new Fraction[MEMBERS][MEMBERS];
        for (int i = 0; i < MEMBERS; i++) {
            for (int j = 0; j < MEMBERS; j++) {
                left[i][j] = Fraction.of(table[i][j]);
            }
        }
        for (int i = 0; i < MEMBERS; i++) {
            longFractions(s, left, i);
        }
        int[][] failing = {{28, -15, 2, -8, 0, -8}, {-15, 30, -5, -14, -2, -9}, {2, -5, 28, -3, 1, 3},
            {-8, -14, -3, 26, 11, -10}, {0, -2, 1, 11, 28, 11}, {-8, -9, 3, -10, 11, 26}};
        expect.about(Sentence.STEPS_BELOW);
        expect.same("fails, but wouldn't if ints wrapped around", 2, Samples.withSix(failing).check());
        int[][] good = {{30, -2, -3, -5, 0, -3}, {-2, 26, 0, -2, -6, -4}, {-3, 0, 28, -3, 6, 2},
            {-5, -2, -3, 28, 4, -7}, {0, -6, 6, 4, 26, 5}, {-3, -4, 2, -7, 5, 30}};
        expect.same("doesn't fail, but would if ints wrapped around", 0, Samples.withSix(good).check());
    }

    private void longFractions(SquareSums s, Fraction[][] left, int i) {
        Fraction w = left[i][i];
        Fraction half = w.through(Fraction.of(2));
        expect.fraction("weight " + i, half.part(0), half.part(1), s.weight(i, 0), s.weight(i, 1));
        Fraction[] row = new Fraction[MEMBERS];
        for (int j = 0; j < MEMBERS; j++) {
            row[j] = j < i ? Fraction.of(0) : left[i][j].through(w);
            expect.fraction("row " + i + ", " + j, row[j].part(0), row[j].part(1), s.row(i, j, 0), s.row(i, j, 1));
        }
        for (int j = 0; j < MEMBERS; j++) {
            for (int k = 0; k < MEMBERS; k++) {
                left[j][k] = left[j][k].minus(row[j].times(row[k]).times(w));
            }
        }
    }

    private void sumOfSquares() {
        expect.about(Sentence.SUM_OF_SQUARES);
        SquareSums none = new SquareSums(2);
        none.check();
        sumOfSquares("0", none);
        SquareSums one = Samples.quadratic(1, 1);
        one.check();
        sumOfSquares("one square", one);
        SquareSums hair = three(26, 0, -19, 30, 0, 14);
        hair.check();
        sumOfSquares("just above 0", hair);
        SquareSums six = Samples.withSix(new int[][] {{30, -2, -3, -5, 0, -3}, {-2, 26, 0, -2, -6, -4},
            {-3, 0, 28, -3, 6, 2}, {-5, -2, -3, 28, 4, -7}, {0, -6, 6, 4, 26, 5}, {-3, -4, 2, -7, 5, 30}});
        six.check();
        sumOfSquares("six squares", six);
    }

    private void sumOfSquares(String what, SquareSums s) {
        int[][] points = {{0, 0}, {1, -1}, {-3, 2}, {100, 100}, {-100, 99}};
        for (int[] point : points) {
            int y = s.count(1) == 2 ? point[1] : 0;
            Fraction sum = Fraction.of(0);
            for (int k = 0; k < s.squares(); k++) {
                Fraction root = rootOf(s, k, point[0], y);
                sum = sum.plus(Fraction.of(s.weight(k, 0), s.weight(k, 1)).times(root).times(root));
            }
            expect.fraction(what + " at " + point[0] + ", " + y,
                s.value(point[0], y), 1, sum.part(0), sum.part(1));
        }
    }

    private static Fraction rootOf(SquareSums s, int k, int x, int y) {
        Fraction root = Fraction.of(0);
        for (int i = 0; i < s.basis(); i++) {
            long member = (long) Math.pow(x, s.member(i, 0)) * (long) Math.pow(y, s.member(i, 1));
            root = root.plus(Fraction.of(s.row(k, i, 0), s.row(k, i, 1)).times(Fraction.of(member)));
        }
        return root;
    }

    /** The numbers for the free pairs told in fives, 0 for -2, 4 for 2: the last one rises fastest. */
    private void foundAt(String fives, int... terms) {
        SquareSums s = Samples.polynomial(2, terms);
        expect.same("found at " + fives, Integer.parseInt(fives, 5), s.find(2));
        for (int f = 0; f < FREE.length; f++) {
            expect.same("found at " + fives + ", " + FREE[f][0] + ", " + FREE[f][1],
                fives.charAt(f) - '2', s.at(FREE[f][0], FREE[f][1]));
        }
    }

    private void pairs() {
        expect.about(Sentence.PAIRS);
        // There are 21 of six members, and 15 powers of which each has one that hangs.
        expect.same("pairs of six", 21 - 15, Samples.six().free());
        foundAt("022222", 0, 0, 1, 0, 4, 1, 4, 0, 1);
        foundAt("202222", 0, 0, 1, 0, 1, 2, 0, 4, 2, 4, 0, 1);
        foundAt("220222", 0, 0, 1, 0, 2, 1, 0, 3, 2, 0, 4, 1, 1, 1, -6, 1, 2, -2, 2, 0, 1, 2, 2, 4, 4, 0, 1);
        foundAt("222022", 0, 0, 1, 0, 2, 5, 0, 3, -4, 0, 4, 1, 2, 1, -2, 4, 0, 1);
        foundAt("222202", 0, 0, 1, 0, 2, 1, 0, 3, -2, 0, 4, 1, 1, 1, 2, 1, 2, -2, 1, 3, 2, 2, 2, 2, 4, 0, 1);
        foundAt("222220", 0, 0, 1, 0, 4, 2, 3, 1, 2, 4, 0, 1);
        foundAt("422222", 0, 0, 1, 0, 4, 4, 1, 0, 4, 1, 2, 4, 2, 0, 7, 3, 0, 4, 4, 0, 1);
        foundAt("242222", 0, 0, 1, 0, 1, 4, 0, 2, 6, 0, 3, 4, 0, 4, 1, 2, 0, 4, 3, 0, 4, 4, 0, 1);
        foundAt("224222", 0, 0, 1, 0, 1, 2, 0, 2, 1, 0, 4, 1, 1, 0, 2, 1, 1, 2, 1, 2, 2, 2, 0, 2, 4, 0, 1);
        foundAt("222422", 0, 0, 1, 0, 2, 5, 0, 3, 4, 0, 4, 1, 2, 1, 2, 4, 0, 1);
        foundAt("222242", 0, 0, 4, 0, 2, 1, 0, 3, 2, 0, 4, 1, 1, 2, 2, 1, 3, 2, 2, 2, 5, 3, 1, 4, 4, 0, 1);
        foundAt("222224", 0, 0, 1, 0, 4, 1, 1, 1, 2, 1, 3, 4, 2, 2, 7, 3, 1, 4, 4, 0, 1);
    }

    private void hangs() {
        expect.about(Sentence.HANGS);
        expect.same("no members", 0, new SquareSums(2).free());
        expect.same("one member", 0, Samples.polynomial(2, 4, 0, 1).free());
        expect.same("a power of one pair alone hangs there", 0, Samples.quadratic(1, 3).free());
        SquareSums same = Samples.polynomial(1, 4, 0, 3, 2, 0, 5, 0, 0, 3);
        expect.same("1, x, x2: one free", 1, same.free());
        same.find(2);
        expect.same("x times x hangs, though 1 times x2 is ahead of it", 14, same.at(1, 1));
        expect.same("1 times x2 is free", -2, same.at(0, 2));
        SquareSums first = Samples.polynomial(2, 0, 0, 3, 2, 0, 3, 0, 2, 3, 2, 2, 3, 1, 1, 1);
        expect.same("1, x, y, x y: one free", 1, first.free());
        first.find(2);
        expect.same("1 times x y hangs, it is the first", 3, first.at(0, 3));
        expect.same("x times y is free", -2, first.at(1, 2));
        SquareSums six = Samples.polynomial(2, 0, 0, 15, 2, 0, 13, 0, 2, 13, 4, 0, 15, 2, 2, 13, 0, 4, 15,
            1, 1, 1, 2, 1, 1, 1, 2, 1);
        expect.same("all six: as many free as can be", 6, six.free());
        expect.same("all six: the first table is good", 0, six.find(2));
        for (int[] pair : FREE) {
            expect.same("free: " + pair[0] + ", " + pair[1], -2, six.at(pair[0], pair[1]));
        }
        int[][] hanging = {{1, 1, 30}, {2, 2, 30}, {4, 4, 30}, {0, 4, 3}, {1, 4, 3}, {1, 5, 3}};
        for (int[] pair : hanging) {
            expect.same("hangs: " + pair[0] + ", " + pair[1], pair[2], six.at(pair[0], pair[1]));
        }
    }

    private void told() {
        expect.about(Sentence.TOLD);
        int[][] fits = {{1, 4, 0, 1, 2, 0, 15, 0, 0, 1}, {2, 0, 4, 1, 0, 2, 15, 0, 0, 1},
            {2, 4, 0, 1, 2, 2, 15, 0, 4, 1}};
        for (int[] terms : fits) {
            SquareSums s = new SquareSums(terms[0]);
            for (int t = 1; t < terms.length; t += 3) {
                s.term(terms[t], terms[t + 1], terms[t + 2]);
            }
            expect.same("34 and 32 don't fit", 2, s.find(2));
            expect.same("30 fits", 30, s.at(1, 1));
            expect.same("32 doesn't fit", 1, s.find(1));
            expect.same("just 30", 0, s.find(0));
            s.term(terms[4], terms[5], 14);
            expect.same("32 alone doesn't fit", 1, s.find(2));
            expect.same("30 fits with -1", 30, s.at(1, 1));
            s.term(terms[4], terms[5], 13);
            expect.same("30 fits with -2", 0, s.find(2));
        }
        expect.same("a term that no pair has, no members", -1, Samples.polynomial(1, 1, 0, 1).find(2));
        expect.same("a term that no pair has, two members", -1, Samples.polynomial(1, 3, 0, 1, 0, 0, 1).find(2));
        SquareSums both = Samples.polynomial(2, 0, 0, 3, 2, 0, 3, 0, 2, 3, 2, 2, 3);
        both.find(2);
        expect.same("-2 is free, so 2 hangs", 2, both.at(0, 3));
        expect.same("it makes the polynomial", 0, both.check());
    }

    private void fractions() {
        expect.about(Sentence.FRACTIONS);
        SquareSums s = Samples.quadratic(-1, 2);
        s.check();
        expect.fraction("4 through 2", 2, 1, s.weight(0, 0), s.weight(0, 1));
        expect.fraction("1 through 2", 1, 2, s.weight(1, 0), s.weight(1, 1));
        expect.fraction("4 through 4", 1, 1, s.row(0, 0, 0), s.row(0, 0, 1));
        expect.fraction("-2 through 4", -1, 2, s.row(0, 1, 0), s.row(0, 1, 1));
        expect.fraction("0", 0, 1, s.row(1, 0, 0), s.row(1, 0, 1));
        SquareSums large = three(30, -12, 0, 30, 15, 30);
        expect.same("check", 0, large.check());
        expect.fraction("-12 through 30", -2, 5, large.row(0, 1, 0), large.row(0, 1, 1));
        expect.fraction("0 through 30", 0, 1, large.row(0, 2, 0), large.row(0, 2, 1));
        // 30 - 12 * 12 / 30 is 126 / 5, and half of it 63 / 5.
        expect.fraction("126 through 10", 63, 5, large.weight(1, 0), large.weight(1, 1));
        expect.fraction("15 through 126 / 5", 25, 42, large.row(1, 2, 0), large.row(1, 2, 1));
        // 30 - 25 * 25 / 42 / 42 * 126 / 5 is 295 / 14.
        expect.fraction("295 through 28", 295, 28, large.weight(2, 0), large.weight(2, 1));
    }

    private void noSuch() {
        expect.about(Sentence.NO_SUCH);
        noSuch("0", new SquareSums(2), 0, 0);
        noSuch("x4", Samples.polynomial(2, 4, 0, 1), 1, 1);
        noSuch("x2 + 2 x + 1", Samples.quadratic(1, 1), 2, 1);
        noSuch("x2 + 2 x + 3", Samples.quadratic(1, 3), 2, 2);
        noSuch("x4 + 1", Samples.polynomial(1, 4, 0, 1, 0, 0, 1), 3, 2);
        noSuch("x4 + y2 + 1", Samples.polynomial(2, 4, 0, 1, 0, 2, 1, 0, 0, 1), 4, 3);
        noSuch("x4 + x2 y2 + y2 + 1", Samples.polynomial(2, 4, 0, 1, 2, 2, 1, 0, 2, 1, 0, 0, 1), 5, 4);
        noSuch("all six", Samples.polynomial(2, 0, 0, 1, 2, 0, 1, 0, 2, 1, 4, 0, 1, 2, 2, 1, 0, 4, 1), 6, 6);
    }

    private void noSuch(String what, SquareSums s, int members, int squares) {
        expect.same(what + ": found", 0, s.find(0));
        expect.same(what + ": squares", squares, s.squares());
        for (int k = -1; k <= 7; k++) {
            int of = k;
            String member = k >= 0 && k < members ? "there" : Expect.INDEX.getName();
            String square = k >= 0 && k < squares ? "there" : Expect.INDEX.getName();
            expect.text(what + ": member " + k, member, there(() -> s.member(of, 1)));
            expect.text(what + ": at " + k + ", 0", member, there(() -> s.at(of, 0)));
            expect.text(what + ": at 0, " + k, member, there(() -> s.at(0, of)));
            expect.text(what + ": put " + k + ", 0", member, there(() -> Expect.bit(s.put(of, 0, s.at(of, 0)))));
            expect.text(what + ": put 0, " + k, member, there(() -> Expect.bit(s.put(0, of, s.at(0, of)))));
            expect.text(what + ": weight " + k, square, there(() -> s.weight(of, 1)));
            if (members > 0) {
                expect.text(what + ": row " + k + ", 0", square, there(() -> s.row(of, 0, 1)));
                expect.text(what + ": row 0, " + k, member, there(() -> s.row(0, of, 1)));
            } else {
                expect.fails(what + ": row " + k + ", 0", Expect.INDEX, () -> s.row(of, 0, 1));
            }
        }
    }

    private static String there(Expect.Call call) {
        String outcome = Expect.outcome(call);
        return outcome.startsWith("java") ? outcome : "there";
    }
}
