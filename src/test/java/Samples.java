/** Polynomials and tables that several tests use. */
final class Samples {
    private static final int[] MEMBER_A = {0, 1, 0, 2, 1, 0};
    private static final int[] MEMBER_B = {0, 0, 1, 0, 1, 2};

    private Samples() { }

    /** A polynomial from numbers a, b, v in a row for each term. */
    static SquareSums polynomial(int unknowns, int... terms) {
        SquareSums s = new SquareSums(unknowns);
        for (int t = 0; t < terms.length; t += 3) {
            s.term(terms[t], terms[t + 1], terms[t + 2]);
        }
        return s;
    }

    /** x to the 4th + y to the 4th + 1, of which all six are members. */
    static SquareSums six() {
        return polynomial(2, 4, 0, 1, 0, 4, 1, 0, 0, 1);
    }

    /** x squared + 2 b x + c, its table written so that it makes the polynomial. */
    static SquareSums quadratic(int b, int c) {
        SquareSums s = polynomial(1, 2, 0, 1, 1, 0, 2 * b, 0, 0, c);
        s.put(0, 0, 2 * c);
        s.put(0, 1, 2 * b);
        s.put(1, 1, 2);
        return s;
    }

    static SquareSums allPowers() {
        SquareSums s = new SquareSums(2);
        for (int a = 0; a <= 4; a++) {
            for (int b = 0; a + b <= 4; b++) {
                s.term(a, b, 1);
            }
        }
        return s;
    }

    /** The polynomial that a table of 1, x, x squared makes, with this table. */
    static SquareSums withThree(int[][] table) {
        SquareSums s = polynomial(1,
            0, 0, table[0][0] / 2,
            1, 0, table[0][1],
            2, 0, table[0][2] + table[1][1] / 2,
            3, 0, table[1][2],
            4, 0, table[2][2] / 2);
        write(s, table);
        return s;
    }

    /** The polynomial that a table of all six members makes, with this table. */
    static SquareSums withSix(int[][] table) {
        int[][] sum = new int[5][5];
        for (int i = 0; i < 6; i++) {
            for (int j = 0; j < 6; j++) {
                sum[MEMBER_A[i] + MEMBER_A[j]][MEMBER_B[i] + MEMBER_B[j]] += table[i][j];
            }
        }
        SquareSums s = new SquareSums(2);
        for (int a = 0; a <= 4; a++) {
            for (int b = 0; a + b <= 4; b++) {
                s.term(a, b, sum[a][b] / 2);
            }
        }
        write(s, table);
        return s;
    }

    static void write(SquareSums s, int[][] table) {
        for (int i = 0; i < table.length; i++) {
            for (int j = i; j < table.length; j++) {
                s.put(i, j, table[i][j]);
            }
        }
    }
}
