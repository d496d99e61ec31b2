import java.math.BigInteger;
import java.util.ArrayList;
import java.util.Arrays;
import java.util.List;

/**
 * The document's words once more, as literally as can be and with no care for speed: covered points
 * by triangles, steps in fractions of any size, all tables tried one by one.
 */
final class Reference {
    private record Power(int a, int b) {
        Power times(Power o) {
            return new Power(a + o.a, b + o.b);
        }
    }

    private record Square(Fraction weight, Fraction[] row) { }

    private final int unknowns;
    private final int[][] numbers = new int[5][5];
    private final List<Power> members = new ArrayList<>();
    private int[][] table = new int[0][0];
    private List<Square> squares = null;

    Reference(int unknowns) {
        this.unknowns = Math.max(1, Math.min(2, unknowns));
    }

    private List<Power> powers() {
        List<Power> all = new ArrayList<>();
        for (int sum = 0; sum <= 4; sum++) {
            for (int b = 0; b <= sum; b++) {
                if (unknowns == 2 || b == 0) {
                    all.add(new Power(sum - b, b));
                }
            }
        }
        return all;
    }

    private List<Power> terms() {
        List<Power> found = new ArrayList<>();
        for (Power p : powers()) {
            if (numbers[p.a()][p.b()] != 0) {
                found.add(p);
            }
        }
        return found;
    }

    private static int turn(Power p, Power q, Power r) {
        return (q.a() - p.a()) * (r.b() - p.b()) - (q.b() - p.b()) * (r.a() - p.a());
    }

    private static boolean between(Power x, Power p, Power q) {
        return turn(p, q, x) == 0
            && x.a() >= Math.min(p.a(), q.a()) && x.a() <= Math.max(p.a(), q.a())
            && x.b() >= Math.min(p.b(), q.b()) && x.b() <= Math.max(p.b(), q.b());
    }

    private static boolean inTriangle(Power x, Power p, Power q, Power r) {
        int whole = turn(p, q, r);
        if (whole == 0) {
            return between(x, p, q) || between(x, q, r) || between(x, p, r);
        }
        int one = turn(p, q, x) * whole;
        int two = turn(q, r, x) * whole;
        int three = turn(r, p, x) * whole;
        return one >= 0 && two >= 0 && three >= 0;
    }

    /** In a plane three points are always enough to cover what is covered at all. */
    private static boolean covered(Power x, List<Power> by) {
        for (Power p : by) {
            for (Power q : by) {
                for (Power r : by) {
                    if (inTriangle(x, p, q, r)) {
                        return true;
                    }
                }
            }
        }
        return false;
    }

    private List<Power> corners() {
        List<Power> found = new ArrayList<>();
        for (Power p : terms()) {
            List<Power> others = terms();
            others.remove(p);
            if (!covered(p, others)) {
                found.add(p);
            }
        }
        return found;
    }

    private void another() {
        members.clear();
        for (Power p : powers()) {
            if (covered(new Power(2 * p.a(), 2 * p.b()), terms())) {
                members.add(p);
            }
        }
        table = new int[members.size()][members.size()];
        squares = null;
    }

    private boolean isMember(int k) {
        return k >= 0 && k < members.size();
    }

    private static IllegalArgumentException argument() {
        return new IllegalArgumentException();
    }

    private static IndexOutOfBoundsException index() {
        return new IndexOutOfBoundsException();
    }

    private static IllegalStateException state() {
        return new IllegalStateException();
    }

    boolean term(int a, int b, int v) {
        if (!powers().contains(new Power(a, b)) || v < -15 || v > 15) {
            throw argument();
        }
        if (numbers[a][b] == v) {
            return false;
        }
        numbers[a][b] = v;
        another();
        return true;
    }

    int basis() {
        for (Power p : corners()) {
            if (p.a() % 2 == 1 || p.b() % 2 == 1 || numbers[p.a()][p.b()] < 0) {
                return -1;
            }
        }
        return members.size();
    }

    int member(int k, int letter) {
        if (!isMember(k)) {
            throw index();
        }
        if (letter < 0 || letter > 1) {
            throw argument();
        }
        return letter == 0 ? members.get(k).a() : members.get(k).b();
    }

    boolean put(int i, int j, int v) {
        if (!isMember(i) || !isMember(j)) {
            throw index();
        }
        if (v < -30 || v > 30) {
            throw argument();
        }
        if (table[i][j] == v) {
            return false;
        }
        table[i][j] = v;
        table[j][i] = v;
        squares = null;
        return true;
    }

    int at(int i, int j) {
        if (!isMember(i) || !isMember(j)) {
            throw index();
        }
        return table[i][j];
    }

    private boolean makes(int[][] t) {
        int[][] sum = new int[5][5];
        for (int i = 0; i < members.size(); i++) {
            for (int j = 0; j < members.size(); j++) {
                Power p = members.get(i).times(members.get(j));
                sum[p.a()][p.b()] += t[i][j];
            }
        }
        for (Power p : powers()) {
            if (sum[p.a()][p.b()] != 2 * numbers[p.a()][p.b()]) {
                return false;
            }
        }
        return true;
    }

    /** Null if the steps fail. */
    private static List<Square> steps(int[][] t) {
        int n = t.length;
        Fraction[][] left = new Fraction[n][n];
        for (int i = 0; i < n; i++) {
            for (int j = 0; j < n; j++) {
                left[i][j] = Fraction.of(t[i][j]);
            }
        }
        List<Square> found = new ArrayList<>();
        for (int i = 0; i < n; i++) {
            Fraction w = left[i][i];
            if (w.above().signum() < 0) {
                return null;
            }
            if (w.above().signum() == 0) {
                for (int j = i + 1; j < n; j++) {
                    if (left[i][j].above().signum() != 0) {
                        return null;
                    }
                }
                continue;
            }
            Fraction[] row = new Fraction[n];
            for (int j = 0; j < n; j++) {
                row[j] = j < i ? Fraction.of(0) : left[i][j].through(w);
            }
            found.add(new Square(w.through(Fraction.of(2)), row));
            for (int j = 0; j < n; j++) {
                for (int k = 0; k < n; k++) {
                    left[j][k] = left[j][k].minus(row[j].times(row[k]).times(w));
                }
            }
        }
        return found;
    }

    int check() {
        squares = null;
        if (!makes(table)) {
            return 1;
        }
        squares = steps(table);
        return squares == null ? 2 : 0;
    }

    int squares() {
        if (squares == null) {
            throw state();
        }
        return squares.size();
    }

    private Square square(int k) {
        int all = squares();
        if (k < 0 || k >= all) {
            throw index();
        }
        return squares.get(k);
    }

    long weight(int k, int part) {
        Square s = square(k);
        if (part < 0 || part > 1) {
            throw argument();
        }
        return s.weight().part(part);
    }

    long row(int k, int i, int part) {
        Square s = square(k);
        if (!isMember(i)) {
            throw index();
        }
        if (part < 0 || part > 1) {
            throw argument();
        }
        return s.row()[i].part(part);
    }

    /** All pairs i, j; those that hang if so asked, else those that are free. */
    private List<int[]> pairs(boolean hanging) {
        List<int[]> found = new ArrayList<>();
        for (int i = 0; i < members.size(); i++) {
            for (int j = i; j < members.size(); j++) {
                if (hangs(i, j) == hanging) {
                    found.add(new int[] {i, j});
                }
            }
        }
        return found;
    }

    private boolean hangs(int i, int j) {
        Power p = members.get(i).times(members.get(j));
        for (int k = 0; k < members.size(); k++) {
            if (members.get(k).times(members.get(k)).equals(p)) {
                return i == j;
            }
        }
        for (int k = 0; k < members.size(); k++) {
            for (int m = k; m < members.size(); m++) {
                if (members.get(k).times(members.get(m)).equals(p)) {
                    return k == i && m == j;
                }
            }
        }
        throw new IllegalStateException("a pair has its own power");
    }

    int free() {
        return pairs(false).size();
    }

    int find(int most) {
        if (most < 0 || most > 2) {
            throw argument();
        }
        List<int[]> free = pairs(false);
        List<int[]> hanging = pairs(true);
        int base = 2 * most + 1;
        int all = 1;
        for (int f = 0; f < free.size(); f++) {
            all *= base;
        }
        for (int tried = 0; tried < all; tried++) {
            int[][] t = new int[members.size()][members.size()];
            int rest = tried;
            for (int f = free.size() - 1; f >= 0; f--) {
                int[] pair = free.get(f);
                t[pair[0]][pair[1]] = rest % base - most;
                t[pair[1]][pair[0]] = rest % base - most;
                rest /= base;
            }
            if (hang(t, hanging) && makes(t)) {
                List<Square> found = steps(t);
                if (found != null) {
                    table = t;
                    squares = found;
                    return tried;
                }
            }
        }
        return -1;
    }

    /** Whether all numbers fit that hang on those in t, which they are written into. */
    private boolean hang(int[][] t, List<int[]> hanging) {
        for (int[] pair : hanging) {
            Power p = members.get(pair[0]).times(members.get(pair[1]));
            int sum = 2 * numbers[p.a()][p.b()];
            for (int i = 0; i < members.size(); i++) {
                for (int j = 0; j < members.size(); j++) {
                    boolean itself = Math.min(i, j) == pair[0] && Math.max(i, j) == pair[1];
                    if (!itself && members.get(i).times(members.get(j)).equals(p)) {
                        sum -= t[i][j];
                    }
                }
            }
            int number = pair[0] == pair[1] ? sum : sum / 2;
            if (number < -30 || number > 30) {
                return false;
            }
            t[pair[0]][pair[1]] = number;
            t[pair[1]][pair[0]] = number;
        }
        return true;
    }

    long value(int x, int y) {
        if (x < -100 || x > 100 || (unknowns == 2 && (y < -100 || y > 100))) {
            throw argument();
        }
        BigInteger sum = BigInteger.ZERO;
        for (Power p : terms()) {
            sum = sum.add(BigInteger.valueOf(numbers[p.a()][p.b()])
                .multiply(BigInteger.valueOf(x).pow(p.a()))
                .multiply(BigInteger.valueOf(y).pow(p.b())));
        }
        return sum.longValueExact();
    }

    int count(int what) {
        return switch (what) {
            case 0 -> terms().size();
            case 1 -> unknowns;
            case 2 -> corners().size();
            default -> -1;
        };
    }

    void clear() {
        for (int[] line : numbers) {
            Arrays.fill(line, 0);
        }
        another();
    }
}
