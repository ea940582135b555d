/** Promises 1, 2, 3, 15, 16, 17, 24: a new object, number, letter, kind, degree, at, count. */
public final class NumbersTest {
    private static final Checks CHECKS = new Checks("NumbersTest");
    private static final Class<?> INDEX = IndexOutOfBoundsException.class;
    private static final Class<?> ARGUMENT = IllegalArgumentException.class;
    private static final Class<?> ARITHMETIC = ArithmeticException.class;
    private static final Class<?> STATE = IllegalStateException.class;

    public static void main(String[] args) {
        newHouse();
        numbers();
        tooGreatNumbers();
        letters();
        kinds();
        degrees();
        ats();
        counts();
        CHECKS.finish();
    }

    private static void newHouse() {
        FormulaHouse h = new FormulaHouse();
        CHECKS.due("count() of a new object", h.count(), 0);
        CHECKS.refuses(h, INDEX, "kind(0) of a new object", () -> h.kind(0));
        int all = h.where(h.number(0, 1), 0);
        CHECKS.due("all is assumed at first, so assume(all)", h.assume(all), false);
        FormulaHouse second = new FormulaHouse();
        CHECKS.due("count() of a second object", second.count(), 0);
        CHECKS.due("sign(x) with all assumed", second.sign(second.letter()), 2);
    }

    private static void numbers() {
        int[][] rows = {
            {6, -4, -3, 2}, {0, 5, 0, 1}, {0, -5, 0, 1}, {0, Integer.MIN_VALUE, 0, 1}, {-7, -7, 1, 1},
            {60, 1, 60, 1}, {-60, 1, -60, 1}, {60, -1, -60, 1}, {1, 60, 1, 60}, {-1, 60, -1, 60}, {59, 60, 59, 60},
            {120, 2, 60, 1}, {2, 120, 1, 60}, {Integer.MIN_VALUE, Integer.MIN_VALUE, 1, 1},
            {Integer.MIN_VALUE, 1 << 30, -2, 1}, {1 << 30, Integer.MIN_VALUE, -1, 2},
            {Integer.MAX_VALUE, -Integer.MAX_VALUE, -1, 1}, {Integer.MAX_VALUE - 7, Integer.MAX_VALUE - 7, 1, 1},
        };
        for (int[] row : rows) {
            FormulaHouse h = new FormulaHouse();
            String call = "number(" + row[0] + ", " + row[1] + ")";
            CHECKS.due(call, h.number(row[0], row[1]), 0);
            CHECKS.due("above of " + call, h.at(0, 0, 0), row[2]);
            CHECKS.due("below of " + call, h.at(0, 0, 1), row[3]);
            CHECKS.due("kind of " + call, h.kind(0), 0);
        }
    }

    private static void tooGreatNumbers() {
        FormulaHouse h = new FormulaHouse();
        int[][] rows = {
            {61, 1}, {-61, 1}, {61, -1}, {1, 61}, {1, -61}, {-1, 61}, {122, 4}, {122, -4}, {61, 60}, {60, 61},
            {Integer.MIN_VALUE, 1}, {Integer.MIN_VALUE, -1}, {1, Integer.MIN_VALUE}, {Integer.MAX_VALUE, 2},
            {Integer.MIN_VALUE, Integer.MAX_VALUE},
        };
        for (int[] row : rows) {
            CHECKS.refuses(h, STATE, "number(" + row[0] + ", " + row[1] + ")", () -> h.number(row[0], row[1]));
        }
        CHECKS.refuses(h, ARITHMETIC, "number(1, 0)", () -> h.number(1, 0));
        CHECKS.refuses(h, ARITHMETIC, "number(0, 0)", () -> h.number(0, 0));
        CHECKS.refuses(h, ARITHMETIC, "number(99, 0)", () -> h.number(99, 0));
    }

    private static void letters() {
        FormulaHouse h = new FormulaHouse();
        CHECKS.due("letter()", h.letter(), 0);
        CHECKS.due("letter() again", h.letter(), 1);
        CHECKS.due("x", Checks.formula(h, 0), "1 1: 0 1 0 0");
        CHECKS.due("x again", Checks.formula(h, 1), "1 1: 0 1 0 0");
    }

    private static void kinds() {
        FormulaHouse h = new FormulaHouse();
        int x = h.letter();
        int number = h.number(1, 2);
        int set = h.where(x, 0);
        CHECKS.due("kind(x)", h.kind(x), 1);
        CHECKS.due("kind(number)", h.kind(number), 0);
        CHECKS.due("kind(set)", h.kind(set), 2);
        CHECKS.due("kind(x - x)", h.kind(h.less(x, x)), 0);
        CHECKS.due("kind(slope of x)", h.kind(h.derive(x)), 0);
        for (int handle : new int[] {-1, 5, 6, 79, 80, Integer.MIN_VALUE, Integer.MAX_VALUE}) {
            CHECKS.refuses(h, INDEX, "kind(" + handle + ")", () -> h.kind(handle));
        }
    }

    private static void degrees() {
        FormulaHouse h = new FormulaHouse();
        CHECKS.due("degree(0)", h.degree(h.number(0, 3)), -1);
        CHECKS.due("degree(7)", h.degree(h.number(7, 1)), 0);
        CHECKS.due("degree of 1", h.degree(Checks.polynomial(h, 0, 5)), 1);
        CHECKS.due("degree of 2", h.degree(Checks.polynomial(h, 0, 0, -5)), 2);
        CHECKS.due("degree of 3", h.degree(Checks.polynomial(h, 1, 0, 0, 2)), 3);
        int set = h.where(0, 0);
        CHECKS.refuses(h, ARGUMENT, "degree(set)", () -> h.degree(set));
        CHECKS.refuses(h, INDEX, "degree(-1)", () -> h.degree(-1));
        CHECKS.refuses(h, INDEX, "degree(set + 1)", () -> h.degree(set + 1));
    }

    private static void ats() {
        FormulaHouse h = new FormulaHouse();
        int f = h.over(Checks.polynomial(h, -1, 4, 0, 6), h.number(2, 1));
        CHECKS.due("(-1 + 4x + 6xxx) / 2", Checks.formula(h, f), "1 3: -1/2 2 0 3");
        for (int power : new int[] {-1, 4, 80, Integer.MIN_VALUE, Integer.MAX_VALUE}) {
            CHECKS.due("at(f, " + power + ", 0)", h.at(f, power, 0), 0);
            CHECKS.due("at(f, " + power + ", 1)", h.at(f, power, 1), 1);
        }
        int set = h.where(h.number(1, 1), 0);
        for (int part : new int[] {-1, 2, Integer.MIN_VALUE, Integer.MAX_VALUE}) {
            CHECKS.refuses(h, ARGUMENT, "at(f, 0, " + part + ")", () -> h.at(f, 0, part));
            CHECKS.refuses(h, ARGUMENT, "at(f, 9, " + part + ")", () -> h.at(f, 9, part));
            CHECKS.refuses(h, INDEX, "at(-1, 0, " + part + ")", () -> h.at(-1, 0, part));
        }
        CHECKS.refuses(h, ARGUMENT, "at(set, 0, 0)", () -> h.at(set, 0, 0));
        CHECKS.refuses(h, INDEX, "at(set + 1, 0, 0)", () -> h.at(set + 1, 0, 0));
    }

    private static void counts() {
        FormulaHouse h = new FormulaHouse();
        h.letter();
        CHECKS.due("count() behind one", h.count(), 1);
        CHECKS.refuses(h, STATE, "number(61, 1)", () -> h.number(61, 1));
        CHECKS.due("count() behind a refusal", h.count(), 1);
        h.where(0, 0);
        h.assume(1);
        h.sign(0);
        CHECKS.due("count() behind two, assume and sign", h.count(), 2);
    }
}
