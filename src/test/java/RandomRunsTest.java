import java.util.Random;

/** Long runs of calls, right and wrong ones, answered by the class and by the reference alike. */
public final class RandomRunsTest {
    private static final int RUNS = 120;
    private static final int CALLS = 512;

    private final Expect expect;
    private final Random random;
    private final SquareSums tested;
    private final Reference due;
    private final String name;
    private int calls = 0;
    private int dearCalls = 0;

    private RandomRunsTest(int run, Expect expect) {
        this.expect = expect;
        random = new Random(run);
        int unknowns = run % 4 == 0 ? 1 : 2;
        tested = new SquareSums(unknowns);
        due = new Reference(unknowns);
        name = "run " + run + " call ";
    }

    public static void main(String[] args) {
        Expect expect = new Expect();
        for (int run = 0; run < RUNS; run++) {
            new RandomRunsTest(run, expect).play();
        }
        expect.end();
    }

    private void play() {
        while (calls < CALLS - 120) {
            switch (random.nextInt(5)) {
                case 0 -> makeSumOfSquares();
                case 1 -> makeSparse();
                case 2 -> changeOneTerm();
                case 3 -> makeLarge();
                default -> tryWrongCalls();
            }
            useThePolynomial();
        }
    }

    private int upTo(int most) {
        return random.nextInt(2 * most + 1) - most;
    }

    private void compare(String call, Expect.Call got, Expect.Call want) {
        calls++;
        if (calls <= CALLS) {
            expect.text(name + calls + ": " + call, Expect.outcome(want), Expect.outcome(got));
        }
    }

    private void term(int a, int b, int v) {
        compare("term(" + a + ", " + b + ", " + v + ")",
            () -> Expect.bit(tested.term(a, b, v)), () -> Expect.bit(due.term(a, b, v)));
    }

    private void put(int i, int j, int v) {
        compare("put(" + i + ", " + j + ", " + v + ")",
            () -> Expect.bit(tested.put(i, j, v)), () -> Expect.bit(due.put(i, j, v)));
    }

    private void clear() {
        compare("clear()", () -> {
            tested.clear();
            return 0;
        }, () -> {
            due.clear();
            return 0;
        });
    }

    private void makeSumOfSquares() {
        int[][] sum = new int[5][5];
        int squares = 1 + random.nextInt(4);
        for (int s = 0; s < squares; s++) {
            int[] c = new int[6];
            for (int m = 0; m < 6; m++) {
                c[m] = random.nextInt(3) == 0 ? 0 : upTo(random.nextInt(6) == 0 ? 2 : 1);
            }
            addSquare(sum, c);
        }
        clear();
        setTerms(sum);
    }

    private void addSquare(int[][] sum, int[] c) {
        int[] a = {0, 1, 0, 2, 1, 0};
        int[] b = {0, 0, 1, 0, 1, 2};
        for (int i = 0; i < 6; i++) {
            for (int j = 0; j < 6; j++) {
                if (due.count(1) == 2 || b[i] + b[j] == 0) {
                    sum[a[i] + a[j]][b[i] + b[j]] += c[i] * c[j];
                }
            }
        }
    }

    private void setTerms(int[][] sum) {
        for (int a = 0; a <= 4; a++) {
            for (int b = 0; a + b <= 4; b++) {
                if (sum[a][b] != 0) {
                    term(a, b, Math.max(-15, Math.min(15, sum[a][b])));
                }
            }
        }
    }

    /** High numbers all over, so that the fractions of the steps become as long as can be. */
    private void makeLarge() {
        int others = 1 + random.nextInt(15);
        for (int a = 0; a <= 4; a++) {
            for (int b = 0; a + b <= 4; b++) {
                if (due.count(1) == 2 || b == 0) {
                    boolean even = a % 2 == 0 && b % 2 == 0;
                    term(a, b, even ? 15 - random.nextInt(3) : upTo(others));
                }
            }
        }
    }

    private void makeSparse() {
        clear();
        int terms = 1 + random.nextInt(5);
        for (int t = 0; t < terms; t++) {
            boolean even = random.nextInt(3) != 0;
            int a = even ? 2 * random.nextInt(3) : random.nextInt(5);
            int b = even ? 2 * random.nextInt(3) : random.nextInt(5);
            term(a, b, even ? 1 + random.nextInt(15) : upTo(15));
        }
    }

    private void changeOneTerm() {
        int a = random.nextInt(5);
        int b = due.count(1) == 1 ? 0 : random.nextInt(5 - a);
        term(a, b, random.nextInt(3) == 0 ? 0 : upTo(15));
    }

    private void tryWrongCalls() {
        int[] odd = {-1, 5, 6, 7, 16, -16, 31, -31, 101, -101, 2, 3, Integer.MAX_VALUE, Integer.MIN_VALUE};
        int x = odd[random.nextInt(odd.length)];
        int y = odd[random.nextInt(odd.length)];
        int z = random.nextInt(4);
        term(x, z, 1);
        term(z, x, 1);
        term(x, y, z);
        term(0, 0, x);
        put(x, 0, z);
        put(0, x, y);
        put(0, 0, x);
        compare("member(" + x + ", " + y + ")", () -> tested.member(x, y), () -> due.member(x, y));
        compare("member(0, " + y + ")", () -> tested.member(0, y), () -> due.member(0, y));
        compare("at(" + x + ", " + z + ")", () -> tested.at(x, z), () -> due.at(x, z));
        compare("at(" + z + ", " + y + ")", () -> tested.at(z, y), () -> due.at(z, y));
        compare("weight(" + x + ", " + y + ")", () -> tested.weight(x, y), () -> due.weight(x, y));
        compare("weight(0, " + y + ")", () -> tested.weight(0, y), () -> due.weight(0, y));
        compare("row(" + x + ", 0, " + y + ")", () -> tested.row(x, 0, y), () -> due.row(x, 0, y));
        compare("row(0, " + x + ", " + y + ")", () -> tested.row(0, x, y), () -> due.row(0, x, y));
        compare("row(0, 0, " + y + ")", () -> tested.row(0, 0, y), () -> due.row(0, 0, y));
        compare("value(" + x + ", " + y + ")", () -> tested.value(x, y), () -> due.value(x, y));
        compare("value(" + z + ", " + y + ")", () -> tested.value(z, y), () -> due.value(z, y));
        compare("count(" + x + ")", () -> tested.count(x), () -> due.count(x));
        compare("squares()", () -> tested.squares(), () -> due.squares());
        find(random.nextBoolean() ? 3 : -1);
    }

    private void useThePolynomial() {
        lookAtBasis();
        find(random.nextInt(2));
        lookAtSquares();
        if (dearCalls < 2 && random.nextInt(3) == 0) {
            dearCalls++;
            find(2);
        }
        changeTable();
        compare("check()", () -> tested.check(), () -> due.check());
        lookAtTable();
        lookAtSquares();
    }

    private void find(int most) {
        compare("find(" + most + ")", () -> tested.find(most), () -> due.find(most));
    }

    private void lookAtBasis() {
        compare("basis()", () -> tested.basis(), () -> due.basis());
        compare("free()", () -> tested.free(), () -> due.free());
        int k = random.nextInt(7);
        compare("member(" + k + ", 0)", () -> tested.member(k, 0), () -> due.member(k, 0));
        compare("member(" + k + ", 1)", () -> tested.member(k, 1), () -> due.member(k, 1));
        compare("count(0)", () -> tested.count(0), () -> due.count(0));
        compare("count(2)", () -> tested.count(2), () -> due.count(2));
        int x = upTo(101);
        int y = upTo(101);
        compare("value(" + x + ", " + y + ")", () -> tested.value(x, y), () -> due.value(x, y));
    }

    private void lookAtTable() {
        int i = random.nextInt(6);
        for (int j = 0; j < 6; j++) {
            int to = j;
            compare("at(" + i + ", " + j + ")", () -> tested.at(i, to), () -> due.at(i, to));
        }
    }

    private void lookAtSquares() {
        compare("squares()", () -> tested.squares(), () -> due.squares());
        int k = random.nextInt(5);
        int part = random.nextInt(2);
        compare("weight(" + k + ", " + part + ")", () -> tested.weight(k, part), () -> due.weight(k, part));
        for (int i = 0; i < 7; i++) {
            int of = i;
            compare("row(" + k + ", " + i + ", " + part + ")",
                () -> tested.row(k, of, part), () -> due.row(k, of, part));
        }
    }

    /** Moves along what a power's pairs can share, so that the table often still makes it. */
    private void changeTable() {
        switch (random.nextInt(6)) {
            case 0 -> put(random.nextInt(7), random.nextInt(7), upTo(31));
            case 1 -> shiftAnyPair(2);
            case 2 -> {
                shiftAnyPair(2);
                shiftAnyPair(2);
            }
            case 3 -> {
                shiftAnyPair(30);
                shiftAnyPair(30);
                shiftAnyPair(30);
            }
            case 4 -> fillTable();
            default -> { }
        }
    }

    private void shiftAnyPair(int most) {
        int i = random.nextInt(6);
        int j = random.nextInt(6);
        for (int k = 0; k < 6; k++) {
            for (int m = k; m < 6; m++) {
                if (sameProduct(i, j, k, m)) {
                    int d = upTo(most);
                    put(i, j, due.at(i, j) + (i == j ? 2 * d : d));
                    put(k, m, due.at(k, m) - (k == m ? 2 * d : d));
                    return;
                }
            }
        }
    }

    private boolean sameProduct(int i, int j, int k, int m) {
        if (Math.min(i, j) == k && Math.max(i, j) == m) {
            return false;
        }
        try {
            return due.member(i, 0) + due.member(j, 0) == due.member(k, 0) + due.member(m, 0)
                && due.member(i, 1) + due.member(j, 1) == due.member(k, 1) + due.member(m, 1);
        } catch (IndexOutOfBoundsException e) {
            return false;
        }
    }

    private void fillTable() {
        for (int i = 0; i < 6; i++) {
            put(i, random.nextInt(6), upTo(30));
        }
    }
}
