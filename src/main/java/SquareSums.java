import java.util.Arrays;

/**
 * Polynomials in one or two unknowns as sums of squares: which powers can stand in the squares,
 * tables that make the polynomial, their squares with weights by steps, tables found by trying.
 *
 * <p>All rows are made with the object and used again: no call makes an object but an exception.
 */
public final class SquareSums {
    private static final int NONE = -1;
    private static final int HIGHEST = 4;
    private static final int POWERS = 15;
    private static final int MEMBERS = 6;
    private static final int CELLS = 36;
    private static final int PAIRS = 21;
    private static final int NUMBER_LIMIT = 15;
    private static final int TABLE_LIMIT = 30;
    private static final int VALUE_LIMIT = 100;
    private static final int MOST_LIMIT = 2;
    // Six members have at most six free pairs, and these have at most five numbers each.
    private static final int TABLES = 15625;

    // Those ahead come first, so that the first six are just those that can be members.
    private static final int[] POWER_A = {0, 1, 0, 2, 1, 0, 3, 2, 1, 0, 4, 3, 2, 1, 0};
    private static final int[] POWER_B = {0, 0, 1, 0, 1, 2, 0, 1, 2, 3, 0, 1, 2, 3, 4};

    private final int unknowns;
    private final int[] numbers = new int[POWERS];
    private final int[] table = new int[CELLS];
    private final Hull hull = new Hull();
    private final Pairs pairs = new Pairs();
    private final Steps steps = new Steps();
    private final Search search = new Search();
    private boolean squaresThere = false;

    public SquareSums(int unknowns) {
        this.unknowns = unknowns < 2 ? 1 : 2;
    }

    public boolean term(int a, int b, int v) throws IllegalArgumentException {
        int power = powerAt(a, b);
        if (power == NONE || (unknowns == 1 && b != 0)) {
            throw new IllegalArgumentException("no such power");
        }
        if (!within(v, NUMBER_LIMIT)) {
            throw new IllegalArgumentException("no such number of a polynomial");
        }
        if (numbers[power] == v) {
            return false;
        }
        numbers[power] = v;
        startAnew();
        return true;
    }

    public int basis() {
        return hull.hasBarredCorner(numbers) ? -1 : hull.size;
    }

    public int member(int k, int letter) throws IndexOutOfBoundsException, IllegalArgumentException {
        if (!isMember(k)) {
            throw new IndexOutOfBoundsException("no such member");
        }
        if (letter != 0 && letter != 1) {
            throw new IllegalArgumentException("no such letter");
        }
        int power = hull.members[k];
        return letter == 0 ? POWER_A[power] : POWER_B[power];
    }

    public boolean put(int i, int j, int v) throws IndexOutOfBoundsException, IllegalArgumentException {
        if (!isMember(i) || !isMember(j)) {
            throw new IndexOutOfBoundsException("no such member");
        }
        if (!within(v, TABLE_LIMIT)) {
            throw new IllegalArgumentException("no such number of a table");
        }
        int cell = cellOf(i, j);
        if (table[cell] == v) {
            return false;
        }
        table[cell] = v;
        squaresThere = false;
        return true;
    }

    public int at(int i, int j) throws IndexOutOfBoundsException {
        if (!isMember(i) || !isMember(j)) {
            throw new IndexOutOfBoundsException("no such member");
        }
        return table[cellOf(i, j)];
    }

    public int check() {
        squaresThere = false;
        if (!pairs.make(table, numbers)) {
            return 1;
        }
        if (steps.failingMember(table, hull.size) != NONE) {
            return 2;
        }
        squaresThere = true;
        return 0;
    }

    public int squares() throws IllegalStateException {
        if (!squaresThere) {
            throw new IllegalStateException("no squares are there");
        }
        return steps.size;
    }

    public long weight(int k, int part)
            throws IllegalStateException, IndexOutOfBoundsException, IllegalArgumentException {
        if (!squaresThere) {
            throw new IllegalStateException("no squares are there");
        }
        if (!isSquare(k)) {
            throw new IndexOutOfBoundsException("no such square");
        }
        if (!isPart(part)) {
            throw new IllegalArgumentException("no such part");
        }
        return partOf(steps.weightAbove(k), steps.weightBelow(k), part);
    }

    public long row(int k, int i, int part)
            throws IllegalStateException, IndexOutOfBoundsException, IllegalArgumentException {
        if (!squaresThere) {
            throw new IllegalStateException("no squares are there");
        }
        if (!isSquare(k) || !isMember(i)) {
            throw new IndexOutOfBoundsException("no such square or member");
        }
        if (!isPart(part)) {
            throw new IllegalArgumentException("no such part");
        }
        return partOf(steps.rowAbove(k, i), steps.rowBelow(k), part);
    }

    public int free() {
        return pairs.freeSize;
    }

    public int find(int most) throws IllegalArgumentException {
        if (most < 0 || most > MOST_LIMIT) {
            throw new IllegalArgumentException("most is not 0 to 2");
        }
        int ahead = search.triedAhead(pairs, numbers, hull.size, most);
        if (ahead != NONE) {
            System.arraycopy(search.table, 0, table, 0, CELLS);
            squaresThere = steps.failingMember(table, hull.size) == NONE;
        }
        return ahead;
    }

    public long value(int x, int y) throws IllegalArgumentException {
        if (!within(x, VALUE_LIMIT) || (unknowns == 2 && !within(y, VALUE_LIMIT))) {
            throw new IllegalArgumentException("x or y is not -100 to 100");
        }
        long sum = 0;
        for (int p = 0; p < POWERS; p++) {
            sum += numbers[p] * raised(x, POWER_A[p]) * raised(y, POWER_B[p]);
        }
        return sum;
    }

    public int count(int what) {
        switch (what) {
            case 0:
                return termCount();
            case 1:
                return unknowns;
            case 2:
                return hull.cornerCount();
            default:
                return -1;
        }
    }

    public void clear() {
        Arrays.fill(numbers, 0);
        startAnew();
    }

    /** Another polynomial has another basis, so nothing of the table or its squares may stay. */
    private void startAnew() {
        Arrays.fill(table, 0);
        squaresThere = false;
        hull.span(numbers);
        pairs.arrange(hull);
    }

    private boolean isMember(int k) {
        return k >= 0 && k < hull.size;
    }

    private boolean isSquare(int k) {
        return k >= 0 && k < steps.size;
    }

    private int termCount() {
        int terms = 0;
        for (int p = 0; p < POWERS; p++) {
            if (numbers[p] != 0) {
                terms++;
            }
        }
        return terms;
    }

    private static boolean isPart(int part) {
        return part == 0 || part == 1;
    }

    private static boolean within(int v, int limit) {
        return v >= -limit && v <= limit;
    }

    private static int powerAt(int a, int b) {
        // Each of the two is looked at first, since the sum of two great ones wraps around.
        if (a < 0 || b < 0 || a > HIGHEST || b > HIGHEST || a + b > HIGHEST) {
            return NONE;
        }
        int degree = a + b;
        return degree * (degree + 1) / 2 + b;
    }

    /** One cell holds the number for i and j and for j and i, so that they are always the same. */
    private static int cellOf(int i, int j) {
        return i <= j ? i * MEMBERS + j : j * MEMBERS + i;
    }

    private static long raised(int x, int exponent) {
        long product = 1;
        for (int n = 0; n < exponent; n++) {
            product *= x;
        }
        return product;
    }

    /** A part of a fraction in lowest terms; below must be above 0. */
    private static long partOf(long above, long below, int part) {
        long divisor = commonDivisor(Math.abs(above), below);
        return (part == 0 ? above : below) / divisor;
    }

    /** Above 0 for all a and b that are not below 0; 100 rounds are more than two longs can need. */
    private static long commonDivisor(long a, long b) {
        long greater = a;
        long lesser = b;
        for (int round = 0; round < 100 && lesser != 0; round++) {
            long rest = greater % lesser;
            greater = lesser;
            lesser = rest;
        }
        return Math.max(greater, 1);
    }

    /** What the powers of the terms cover: the corners, and the members of the basis. */
    private static final class Hull {
        private final boolean[] corner = new boolean[POWERS];
        private final boolean[] outside = new boolean[MEMBERS];
        private final int[] members = new int[MEMBERS];
        private int size = 0;

        /**
         * A point is covered if in no direction it lies further out than all the terms. Only the
         * directions along and across a line through two powers need to be looked at, and their
         * numbers are never beyond the highest power.
         */
        void span(int[] numbers) {
            forget();
            for (int u = -HIGHEST; u <= HIGHEST; u++) {
                for (int v = -HIGHEST; v <= HIGHEST; v++) {
                    lookAlong(u, v, numbers);
                }
            }
            gatherMembers();
        }

        private void forget() {
            for (int p = 0; p < POWERS; p++) {
                corner[p] = false;
            }
            for (int m = 0; m < MEMBERS; m++) {
                outside[m] = false;
            }
        }

        private void lookAlong(int u, int v, int[] numbers) {
            int furthest = NONE;
            int reach = 0;
            boolean alone = false;
            for (int p = 0; p < POWERS; p++) {
                if (numbers[p] == 0) {
                    continue;
                }
                int distance = u * POWER_A[p] + v * POWER_B[p];
                if (furthest == NONE || distance > reach) {
                    furthest = p;
                    reach = distance;
                    alone = true;
                } else if (distance == reach) {
                    alone = false;
                }
            }
            if (alone) {
                corner[furthest] = true;
            }
            for (int m = 0; m < MEMBERS; m++) {
                if (furthest == NONE || 2 * (u * POWER_A[m] + v * POWER_B[m]) > reach) {
                    outside[m] = true;
                }
            }
        }

        private void gatherMembers() {
            size = 0;
            for (int m = 0; m < MEMBERS; m++) {
                if (!outside[m]) {
                    members[size] = m;
                    size++;
                }
            }
        }

        boolean hasBarredCorner(int[] numbers) {
            for (int p = 0; p < POWERS; p++) {
                boolean odd = POWER_A[p] % 2 != 0 || POWER_B[p] % 2 != 0;
                if (corner[p] && (odd || numbers[p] < 0)) {
                    return true;
                }
            }
            return false;
        }

        int cornerCount() {
            int corners = 0;
            for (int p = 0; p < POWERS; p++) {
                if (corner[p]) {
                    corners++;
                }
            }
            return corners;
        }
    }

    /** The pairs of members in their order, which of them hang, and which are free. */
    private static final class Pairs {
        private final int[] second = new int[PAIRS];
        private final int[] cell = new int[PAIRS];
        private final int[] power = new int[PAIRS];
        private final int[] share = new int[PAIRS];
        private final int[] hanging = new int[POWERS];
        private final int[] freePairs = new int[PAIRS];
        private final int[] rest = new int[POWERS];
        private int size = 0;
        private int freeSize = 0;

        Pairs() {
            Arrays.fill(hanging, NONE);
        }

        void arrange(Hull hull) {
            Arrays.fill(hanging, NONE);
            size = 0;
            for (int i = 0; i < hull.size; i++) {
                for (int j = i; j < hull.size; j++) {
                    int product = productOf(hull.members[i], hull.members[j]);
                    if (product != NONE) {
                        add(i, j, product);
                    }
                }
            }
            gatherFree();
        }

        private static int productOf(int p, int q) {
            return powerAt(POWER_A[p] + POWER_A[q], POWER_B[p] + POWER_B[q]);
        }

        private void add(int i, int j, int product) {
            second[size] = j;
            cell[size] = cellOf(i, j);
            power[size] = product;
            // A pair of two members stands in the table's sum twice, as i, j and as j, i.
            share[size] = i == j ? 1 : 2;
            if (hanging[product] == NONE || i == j) {
                hanging[product] = size;
            }
            size++;
        }

        private void gatherFree() {
            freeSize = 0;
            for (int pair = 0; pair < size; pair++) {
                if (hanging[power[pair]] != pair) {
                    freePairs[freeSize] = pair;
                    freeSize++;
                }
            }
        }

        boolean make(int[] table, int[] numbers) {
            doubleInto(rest, numbers);
            for (int pair = 0; pair < size; pair++) {
                rest[power[pair]] -= share[pair] * table[cell[pair]];
            }
            for (int p = 0; p < POWERS; p++) {
                if (rest[p] != 0) {
                    return false;
                }
            }
            return true;
        }

        boolean haveAllTerms(int[] numbers) {
            for (int p = 0; p < POWERS; p++) {
                if (numbers[p] != 0 && hanging[p] == NONE) {
                    return false;
                }
            }
            return true;
        }

        /** The table makes half of its sum: doubling the polynomial instead keeps all whole. */
        static void doubleInto(int[] doubled, int[] numbers) {
            for (int p = 0; p < POWERS; p++) {
                doubled[p] = 2 * numbers[p];
            }
        }
    }

    /**
     * The steps of a table. What is left is held times the latest w as it is held itself, which
     * keeps all numbers whole: they are determinants of parts of the table, below 2 to the 38
     * each, and what is divided on the way to them stays below 2 to the 62.
     */
    private static final class Steps {
        private final long[] left = new long[CELLS];
        private final int[] squareMember = new int[MEMBERS];
        private int size = 0;

        /**
         * NONE if the steps never fail; else a member such that the numbers for the members up to
         * it are enough to make them fail, whatever the others are.
         */
        int failingMember(int[] table, int members) {
            for (int cell = 0; cell < CELLS; cell++) {
                left[cell] = table[cell];
            }
            size = 0;
            long before = 1;
            for (int i = 0; i < members; i++) {
                long w = left[cellOf(i, i)];
                if (w < 0) {
                    return i;
                }
                if (w == 0) {
                    int other = firstNotZeroBehind(i, members);
                    if (other != NONE) {
                        return other;
                    }
                } else {
                    takeOffSquare(i, members, before);
                    squareMember[size] = i;
                    size++;
                    before = w;
                }
            }
            return NONE;
        }

        private int firstNotZeroBehind(int i, int members) {
            for (int j = i + 1; j < members; j++) {
                if (left[cellOf(i, j)] != 0) {
                    return j;
                }
            }
            return NONE;
        }

        /** The division leaves no rest (Bareiss). Row i itself stays, for the square is read there. */
        private void takeOffSquare(int i, int members, long before) {
            if (before <= 0) {
                return;
            }
            int rowI = i * MEMBERS;
            long w = left[rowI + i];
            for (int j = i + 1; j < members; j++) {
                int rowJ = j * MEMBERS;
                long forJ = left[rowI + j];
                for (int k = j; k < members; k++) {
                    left[rowJ + k] = (w * left[rowJ + k] - forJ * left[rowI + k]) / before;
                }
            }
        }

        private long pivot(int k) {
            return left[cellOf(squareMember[k], squareMember[k])];
        }

        long weightAbove(int k) {
            return pivot(k);
        }

        long weightBelow(int k) {
            return 2 * (k == 0 ? 1 : pivot(k - 1));
        }

        long rowAbove(int k, int i) {
            return i < squareMember[k] ? 0 : left[cellOf(squareMember[k], i)];
        }

        long rowBelow(int k) {
            return pivot(k);
        }
    }

    /** Tables told by numbers for the free pairs, tried in their order. */
    private static final class Search {
        private final int[] table = new int[CELLS];
        private final int[] rest = new int[POWERS];
        private final int[] chosen = new int[PAIRS];
        private final int[] lastFree = new int[MEMBERS];
        private final Steps steps = new Steps();

        /** How many were tried ahead of the first good one, which is in the table then; or NONE. */
        int triedAhead(Pairs pairs, int[] numbers, int members, int most) {
            if (!pairs.haveAllTerms(numbers)) {
                return NONE;
            }
            Arrays.fill(table, 0);
            startBehind(NONE, most);
            findLastFree(pairs);
            for (int round = 0; round < TABLES; round++) {
                int wrong = wrongMember(pairs, numbers, members);
                if (wrong == NONE) {
                    return placeOfChosen(pairs.freeSize, most);
                }
                if (!goOn(lastFree[wrong], most)) {
                    return NONE;
                }
            }
            return NONE;
        }

        /**
         * For each member the last free pair that any number for the members up to it hangs on. If
         * those numbers are wrong, then no other choice for the free pairs behind it can help, and
         * these need not be tried one by one.
         */
        private void findLastFree(Pairs pairs) {
            Arrays.fill(lastFree, NONE);
            for (int f = 0; f < pairs.freeSize; f++) {
                int power = pairs.power[pairs.freePairs[f]];
                for (int pair = 0; pair < pairs.size; pair++) {
                    if (pairs.power[pair] == power) {
                        markFrom(pairs.second[pair], f);
                    }
                }
            }
        }

        private void markFrom(int member, int f) {
            for (int m = member; m < MEMBERS; m++) {
                lastFree[m] = f;
            }
        }

        /** NONE if the chosen numbers tell a good table; else a member as of the steps. */
        private int wrongMember(Pairs pairs, int[] numbers, int members) {
            Pairs.doubleInto(rest, numbers);
            for (int f = 0; f < pairs.freeSize; f++) {
                int pair = pairs.freePairs[f];
                rest[pairs.power[pair]] -= pairs.share[pair] * chosen[f];
                table[pairs.cell[pair]] = chosen[f];
            }
            for (int p = 0; p < POWERS; p++) {
                int pair = pairs.hanging[p];
                if (pair == NONE) {
                    continue;
                }
                int number = pairs.share[pair] == 1 ? rest[p] : rest[p] / 2;
                if (!within(number, TABLE_LIMIT)) {
                    return pairs.second[pair];
                }
                table[pairs.cell[pair]] = number;
            }
            return steps.failingMember(table, members);
        }

        /** The next numbers of which one up to the free pair f is another one; false if none are. */
        private boolean goOn(int f, int most) {
            for (int g = f; g >= 0; g--) {
                if (chosen[g] < most) {
                    chosen[g]++;
                    startBehind(g, most);
                    return true;
                }
            }
            return false;
        }

        private void startBehind(int f, int most) {
            for (int g = f + 1; g < PAIRS; g++) {
                chosen[g] = -most;
            }
        }

        private int placeOfChosen(int freeSize, int most) {
            int place = 0;
            for (int f = 0; f < freeSize; f++) {
                place = place * (2 * most + 1) + chosen[f] + most;
            }
            return place;
        }
    }
}
