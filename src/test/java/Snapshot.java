/** All that an object tells without being changed by it, as a text; at most some 160 calls. */
final class Snapshot {
    private static final int MEMBERS = 6;
    private static final int HIGHEST = 4;

    private final SquareSums s;
    private final StringBuilder text = new StringBuilder();

    private Snapshot(SquareSums s) {
        this.s = s;
    }

    static String of(SquareSums s) {
        Snapshot snapshot = new Snapshot(s);
        snapshot.polynomial();
        snapshot.basis();
        snapshot.table();
        snapshot.squares();
        return snapshot.text.toString();
    }

    private void add(String what, Expect.Call call) {
        text.append(what).append('=').append(Expect.outcome(call)).append(' ');
    }

    /** Two polynomials whose values are the same at all these points are the same. */
    private void polynomial() {
        for (int x = 0; x <= HIGHEST; x++) {
            for (int y = 0; x + y <= HIGHEST; y++) {
                int atX = x;
                int atY = y;
                add("value " + x + "," + y, () -> s.value(atX, atY));
            }
        }
        add("terms", () -> s.count(0));
        add("unknowns", () -> s.count(1));
        add("corners", () -> s.count(2));
    }

    private void basis() {
        add("basis", s::basis);
        add("free", s::free);
        for (int k = 0; k <= MEMBERS; k++) {
            int of = k;
            add("a " + k, () -> s.member(of, 0));
            add("b " + k, () -> s.member(of, 1));
        }
    }

    private void table() {
        for (int i = 0; i < MEMBERS; i++) {
            for (int j = 0; j < MEMBERS; j++) {
                int row = i;
                int column = j;
                add("at " + i + "," + j, () -> s.at(row, column));
            }
        }
    }

    private void squares() {
        add("squares", s::squares);
        int asked = squaresToAsk();
        for (int k = 0; k < asked; k++) {
            for (int part = 0; part <= 1; part++) {
                square(k, part);
            }
        }
    }

    private int squaresToAsk() {
        try {
            return s.squares();
        } catch (IllegalStateException e) {
            // One is asked for all the same, since it must not be there either.
            return 1;
        }
    }

    private void square(int k, int part) {
        add("weight " + k + "," + part, () -> s.weight(k, part));
        for (int i = 0; i < MEMBERS; i++) {
            int of = i;
            add("row " + k + "," + i + "," + part, () -> s.row(k, of, part));
        }
    }
}
