/** Promises 11 to 14 and 18 to 20: where, both, either, other, pieces, end, holds. */
public final class SetsTest {
    private static final Checks CHECKS = new Checks("SetsTest");
    private static final Class<?> INDEX = IndexOutOfBoundsException.class;
    private static final Class<?> ARGUMENT = IllegalArgumentException.class;
    private static final Class<?> STATE = IllegalStateException.class;

    public static void main(String[] args) {
        whereNumbers();
        whereLines();
        whereSquares();
        whereCantBeTold();
        whereTooGreat();
        together();
        apart();
        asFewPieces();
        manyPieces();
        ends();
        holding();
        CHECKS.finish();
    }

    private static void where(int[] wholes, String zero, String below, String notAbove) {
        FormulaHouse h = new FormulaHouse();
        int f = Checks.polynomial(h, wholes);
        String name = Checks.formula(h, f);
        CHECKS.due("where 0, of " + name, Checks.set(h, h.where(f, 0)), zero);
        CHECKS.due("where below, of " + name, Checks.set(h, h.where(f, 1)), below);
        CHECKS.due("where not above, of " + name, Checks.set(h, h.where(f, 2)), notAbove);
    }

    private static void whereNumbers() {
        where(new int[] {0}, "(.., ..)", "none", "(.., ..)");
        where(new int[] {3}, "none", "none", "none");
        where(new int[] {-3}, "none", "(.., ..)", "(.., ..)");
    }

    private static void whereLines() {
        where(new int[] {-3, 2}, "[3/2, 3/2]", "(.., 3/2)", "(.., 3/2]");
        where(new int[] {-3, -2}, "[-3/2, -3/2]", "(-3/2, ..)", "[-3/2, ..)");
        where(new int[] {0, 1}, "[0, 0]", "(.., 0)", "(.., 0]");
        where(new int[] {60, 1}, "[-60, -60]", "(.., -60)", "(.., -60]");
    }

    private static void whereSquares() {
        where(new int[] {-4, 0, 1}, "[-2, -2] [2, 2]", "(-2, 2)", "[-2, 2]");
        where(new int[] {4, 0, -1}, "[-2, -2] [2, 2]", "(.., -2) (2, ..)", "(.., -2] [2, ..)");
        where(new int[] {-1, 1, 6}, "[-1/2, -1/2] [1/3, 1/3]", "(-1/2, 1/3)", "[-1/2, 1/3]");
        where(new int[] {9, -12, 4}, "[3/2, 3/2]", "none", "[3/2, 3/2]");
        where(new int[] {-9, 12, -4}, "[3/2, 3/2]", "(.., 3/2) (3/2, ..)", "(.., ..)");
        where(new int[] {1, 0, 1}, "none", "none", "none");
        where(new int[] {-1, 0, -1}, "none", "(.., ..)", "(.., ..)");
        where(new int[] {0, -5, 1}, "[0, 0] [5, 5]", "(0, 5)", "[0, 5]");
    }

    private static void whereCantBeTold() {
        FormulaHouse h = new FormulaHouse();
        int rootOfTwo = Checks.polynomial(h, -2, 0, 1);
        int turned = Checks.polynomial(h, 2, 0, -1);
        int cube = Checks.polynomial(h, 0, 0, 0, 1);
        for (int op = 0; op <= 2; op++) {
            int asked = op;
            CHECKS.refuses(h, STATE, "where(xx - 2, " + op + ")", () -> h.where(rootOfTwo, asked));
            CHECKS.refuses(h, STATE, "where(2 - xx, " + op + ")", () -> h.where(turned, asked));
            CHECKS.refuses(h, STATE, "where(xxx, " + op + ")", () -> h.where(cube, asked));
        }
        int fractional = h.less(h.times(h.letter(), h.letter()), h.number(49, 9));
        CHECKS.due("where(xx - 49/9, 2)", Checks.set(h, h.where(fractional, 2)), "[-7/3, 7/3]");
        int set = h.where(fractional, 0);
        for (int op : new int[] {-1, 3, Integer.MIN_VALUE, Integer.MAX_VALUE}) {
            CHECKS.refuses(h, ARGUMENT, "where(f, " + op + ")", () -> h.where(fractional, op));
            CHECKS.refuses(h, ARGUMENT, "where(cube, " + op + ")", () -> h.where(cube, op));
            CHECKS.refuses(h, INDEX, "where(-1, " + op + ")", () -> h.where(-1, op));
        }
        CHECKS.refuses(h, ARGUMENT, "where(set, 0)", () -> h.where(set, 0));
        CHECKS.refuses(h, INDEX, "where(set + 1, 0)", () -> h.where(set + 1, 0));
    }

    private static void whereTooGreat() {
        FormulaHouse h = new FormulaHouse();
        int far = h.less(h.times(h.number(1, 2), h.letter()), h.number(31, 1));
        int near = h.less(h.times(h.number(31, 1), h.letter()), h.number(1, 2));
        for (int op = 0; op <= 2; op++) {
            int asked = op;
            CHECKS.refuses(h, STATE, "where(x/2 - 31, " + op + ")", () -> h.where(far, asked));
            CHECKS.refuses(h, STATE, "where(31x - 1/2, " + op + ")", () -> h.where(near, asked));
        }
        int fits = Checks.polynomial(h, 0, -60, 1);
        CHECKS.due("where(xx - 60x, 1)", Checks.set(h, h.where(fits, 1)), "(0, 60)");
        int oneFar = h.less(h.over(h.times(h.letter(), h.letter()), h.number(2, 1)), Checks.polynomial(h, 0, 31));
        CHECKS.refuses(h, STATE, "where(xx/2 - 31x, 1)", () -> h.where(oneFar, 1));
    }

    private static void together() {
        FormulaHouse h = new FormulaHouse();
        int left = Checks.leftOf(h, 2, true);
        int right = Checks.rightOf(h, -1, false);
        int apart = h.other(h.both(left, right));
        CHECKS.due("left", Checks.set(h, left), "(.., 2]");
        CHECKS.due("right", Checks.set(h, right), "(-1, ..)");
        CHECKS.due("both", Checks.set(h, h.both(left, right)), "(-1, 2]");
        CHECKS.due("both, the other way round", Checks.set(h, h.both(right, left)), "(-1, 2]");
        CHECKS.due("either", Checks.set(h, h.either(left, right)), "(.., ..)");
        CHECKS.due("apart", Checks.set(h, apart), "(.., -1] (2, ..)");
        CHECKS.due("both with apart", Checks.set(h, h.both(apart, left)), "(.., -1]");
        CHECKS.due("either with itself", Checks.set(h, h.either(apart, apart)), "(.., -1] (2, ..)");
        CHECKS.due("both with itself", Checks.set(h, h.both(apart, apart)), "(.., -1] (2, ..)");
        CHECKS.due("both with its other", Checks.set(h, h.both(apart, h.other(apart))), "none");
        CHECKS.due("either with its other", Checks.set(h, h.either(apart, h.other(apart))), "(.., ..)");
        int point = h.where(Checks.polynomial(h, -2, 1), 0);
        CHECKS.due("a shared end", Checks.set(h, h.both(left, Checks.rightOf(h, 2, true))), "[2, 2]");
        CHECKS.due("a point and apart", Checks.set(h, h.either(point, apart)), "(.., -1] [2, ..)");
    }

    private static void apart() {
        FormulaHouse h = new FormulaHouse();
        int none = h.where(h.number(1, 1), 0);
        int all = h.other(none);
        CHECKS.due("other of none", Checks.set(h, all), "(.., ..)");
        CHECKS.due("other of all", Checks.set(h, h.other(all)), "none");
        int points = h.where(Checks.polynomial(h, -4, 0, 1), 0);
        CHECKS.due("other of two points", Checks.set(h, h.other(points)), "(.., -2) (-2, 2) (2, ..)");
        CHECKS.due("other of other", Checks.set(h, h.other(h.other(points))), "[-2, -2] [2, 2]");
        CHECKS.due("none and points", Checks.set(h, h.either(none, points)), "[-2, -2] [2, 2]");
        CHECKS.due("all and points", Checks.set(h, h.both(points, all)), "[-2, -2] [2, 2]");
    }

    private static void asFewPieces() {
        FormulaHouse h = new FormulaHouse();
        int low = h.where(Checks.polynomial(h, 0, -1, 1), 1);
        int high = h.where(Checks.polynomial(h, 2, -3, 1), 1);
        CHECKS.due("low", Checks.set(h, low), "(0, 1)");
        CHECKS.due("high", Checks.set(h, high), "(1, 2)");
        int gap = h.either(low, high);
        CHECKS.due("a fraction lies between two pieces", Checks.set(h, gap), "(0, 1) (1, 2)");
        CHECKS.due("pieces(gap)", h.pieces(gap), 2);
        int one = h.where(Checks.polynomial(h, -1, 1), 0);
        int filled = h.either(one, gap);
        CHECKS.due("the gap is filled", Checks.set(h, filled), "(0, 2)");
        CHECKS.due("pieces(filled)", h.pieces(filled), 1);
        CHECKS.due("low and the point", Checks.set(h, h.either(low, one)), "(0, 1]");
        CHECKS.due("high and the point", Checks.set(h, h.either(one, high)), "[1, 2)");
    }

    private static void manyPieces() {
        FormulaHouse h = new FormulaHouse();
        int square = h.times(h.letter(), h.letter());
        int points = h.where(square, 0);
        for (int k = 1; k <= 7; k++) {
            points = h.either(points, h.where(h.less(square, h.number(k * k, 1)), 0));
        }
        CHECKS.due("fifteen points", h.pieces(points), 15);
        int gaps = h.other(points);
        CHECKS.due("sixteen gaps", h.pieces(gaps), 16);
        CHECKS.due("the left of gap 15", h.end(gaps, 15, 0, 1), 7);
        CHECKS.due("the right of gap 0", h.end(gaps, 0, 1, 1), -7);
        CHECKS.due("point 9", h.end(points, 9, 0, 1), 2);
        CHECKS.due("all again", Checks.set(h, h.either(gaps, points)), "(.., ..)");
    }

    private static void ends() {
        FormulaHouse h = new FormulaHouse();
        int s = h.either(h.where(h.add(h.letter(), h.number(7, 2)), 1), h.where(Checks.polynomial(h, 0, -5, 1), 2));
        CHECKS.due("s", Checks.set(h, s), "(.., -7/2) [0, 5]");
        int[][] rows = {
            {0, 0, 0, 0}, {0, 0, 1, 0}, {0, 0, 2, 1}, {0, 1, 0, 1}, {0, 1, 1, -7}, {0, 1, 2, 2},
            {1, 0, 0, 2}, {1, 0, 1, 0}, {1, 0, 2, 1}, {1, 1, 0, 2}, {1, 1, 1, 5}, {1, 1, 2, 1},
        };
        for (int[] r : rows) {
            CHECKS.due("end(s, " + r[0] + ", " + r[1] + ", " + r[2] + ")", h.end(s, r[0], r[1], r[2]), r[3]);
        }
        for (int k : new int[] {-1, 2, Integer.MIN_VALUE, Integer.MAX_VALUE}) {
            CHECKS.refuses(h, INDEX, "end(s, " + k + ", 0, 0)", () -> h.end(s, k, 0, 0));
            CHECKS.refuses(h, INDEX, "end(s, " + k + ", 9, 9)", () -> h.end(s, k, 9, 9));
            CHECKS.refuses(h, ARGUMENT, "end(x, " + k + ", 0, 0)", () -> h.end(0, k, 0, 0));
        }
        for (int bad : new int[] {-1, 3, Integer.MIN_VALUE, Integer.MAX_VALUE}) {
            CHECKS.refuses(h, ARGUMENT, "end(s, 0, " + bad + ", 0)", () -> h.end(s, 0, bad, 0));
            CHECKS.refuses(h, ARGUMENT, "end(s, 0, 0, " + bad + ")", () -> h.end(s, 0, 0, bad));
        }
        CHECKS.refuses(h, ARGUMENT, "end(s, 0, 2, 0)", () -> h.end(s, 0, 2, 0));
        CHECKS.refuses(h, INDEX, "end(s + 1, 0, 0, 0)", () -> h.end(s + 1, 0, 0, 0));
        CHECKS.refuses(h, INDEX, "pieces(s + 1)", () -> h.pieces(s + 1));
        CHECKS.refuses(h, ARGUMENT, "pieces(x)", () -> h.pieces(0));
        CHECKS.due("pieces(s)", h.pieces(s), 2);
    }

    private static void holding() {
        FormulaHouse h = new FormulaHouse();
        int x = h.letter();
        int s = h.either(h.where(Checks.polynomial(h, 0, -1, 1), 1), h.where(Checks.polynomial(h, -3, 1), 0));
        CHECKS.due("s", Checks.set(h, s), "(0, 1) [3, 3]");
        int[][] rows = {{-1, 1, 0}, {0, 1, 0}, {1, 60, 1}, {59, 60, 1}, {1, 1, 0}, {60, 59, 0}, {2, 1, 0}, {3, 1, 1},
            {10, 3, 0}};
        for (int[] row : rows) {
            int v = h.number(row[0], row[1]);
            CHECKS.due("holds(s, " + row[0] + "/" + row[1] + ")", h.holds(s, v), row[2] == 1);
            CHECKS.due("or its other", h.holds(h.other(s), v), row[2] == 0);
        }
        int v = h.number(1, 2);
        int all = h.where(h.number(-1, 1), 1);
        CHECKS.due("all holds 1/2", h.holds(all, v), true);
        CHECKS.due("none holds 1/2", h.holds(h.other(all), v), false);
        CHECKS.refuses(h, ARGUMENT, "holds(s, x)", () -> h.holds(s, x));
        CHECKS.refuses(h, ARGUMENT, "holds(s, s)", () -> h.holds(s, s));
        CHECKS.refuses(h, ARGUMENT, "holds(v, v)", () -> h.holds(v, v));
        CHECKS.refuses(h, INDEX, "holds(v, -1)", () -> h.holds(v, -1));
        CHECKS.refuses(h, INDEX, "holds(80, x)", () -> h.holds(80, x));
    }
}
