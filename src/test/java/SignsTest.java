/** Promises 21 to 23: assume, sign, same. */
public final class SignsTest {
    private static final Checks CHECKS = new Checks("SignsTest");
    private static final Class<?> INDEX = IndexOutOfBoundsException.class;
    private static final Class<?> ARGUMENT = IllegalArgumentException.class;
    private static final Class<?> STATE = IllegalStateException.class;

    public static void main(String[] args) {
        assuming();
        signsOfNumbers();
        signsOfLines();
        signsOfSquares();
        signsCantBeTold();
        signsPastTheLimits();
        sameness();
        samenessOfSets();
        CHECKS.finish();
    }

    private static void assuming() {
        FormulaHouse h = new FormulaHouse();
        int x = h.letter();
        int left = Checks.leftOf(h, 0, false);
        int leftAgain = h.where(x, 1);
        int closed = h.where(x, 2);
        int none = h.both(left, h.other(left));
        int all = h.other(none);
        CHECKS.due("assume(all) at first", h.assume(all), false);
        CHECKS.due("assume(left)", h.assume(left), true);
        CHECKS.due("sign(x) left of 0", h.sign(x), -1);
        CHECKS.due("assume(the same by another handle)", h.assume(leftAgain), false);
        CHECKS.refuses(h, ARGUMENT, "assume(none)", () -> h.assume(none));
        CHECKS.refuses(h, ARGUMENT, "assume(x)", () -> h.assume(x));
        CHECKS.refuses(h, INDEX, "assume(-1)", () -> h.assume(-1));
        CHECKS.due("still assumed", h.sign(x), -1);
        CHECKS.due("assume(left) still", h.assume(left), false);
        CHECKS.due("assume(closed)", h.assume(closed), true);
        CHECKS.due("sign(x) not right of 0", h.sign(x), 2);
        CHECKS.due("assume(all)", h.assume(all), true);
        CHECKS.due("assume(all) again", h.assume(all), false);
        int count = h.count();
        CHECKS.due("where doesn't look at what is assumed", Checks.set(h, h.where(x, 1)), "(.., 0)");
        CHECKS.due("one more is there", h.count(), count + 1);
    }

    private static void signsOfNumbers() {
        FormulaHouse h = new FormulaHouse();
        int point = h.where(Checks.polynomial(h, -1, 1), 0);
        int zero = h.number(0, 7);
        int above = h.number(1, 60);
        int below = h.number(-1, 60);
        for (int round = 0; round < 2; round++) {
            CHECKS.due("sign(0)", h.sign(zero), 0);
            CHECKS.due("sign(1/60)", h.sign(above), 1);
            CHECKS.due("sign(-1/60)", h.sign(below), -1);
            h.assume(point);
        }
        CHECKS.refuses(h, ARGUMENT, "sign(set)", () -> h.sign(point));
        CHECKS.refuses(h, INDEX, "sign(-1)", () -> h.sign(-1));
        CHECKS.refuses(h, INDEX, "sign(80)", () -> h.sign(80));
    }

    private static void signsOfLines() {
        FormulaHouse h = new FormulaHouse();
        int line = Checks.polynomial(h, -3, 2);
        int zeroOfIt = h.where(line, 0);
        int right = Checks.rightOf(h, 2, true);
        int left = Checks.leftOf(h, 1, true);
        CHECKS.due("all", h.sign(line), 2);
        h.assume(zeroOfIt);
        CHECKS.due("at its zero", h.sign(line), 0);
        h.assume(right);
        CHECKS.due("right of 2", h.sign(line), 1);
        h.assume(left);
        CHECKS.due("left of 1", h.sign(line), -1);
        h.assume(h.either(left, zeroOfIt));
        CHECKS.due("left of 1 and its zero", h.sign(line), 2);
        h.assume(h.either(right, zeroOfIt));
        CHECKS.due("right of 2 and its zero", h.sign(line), 2);
        h.assume(h.either(right, left));
        CHECKS.due("both sides, not its zero", h.sign(line), 2);
        h.assume(h.where(line, 1));
        CHECKS.due("up to its zero", h.sign(line), -1);
        h.assume(h.other(h.where(line, 2)));
        CHECKS.due("from its zero on", h.sign(line), 1);
        h.assume(h.other(h.where(line, 1)));
        CHECKS.due("with its zero", h.sign(line), 2);
    }

    private static void signsOfSquares() {
        FormulaHouse h = new FormulaHouse();
        int square = Checks.polynomial(h, 0, 0, 1);
        int wide = Checks.polynomial(h, -4, 0, 1);
        int away = Checks.polynomial(h, 1, 1, 1);
        CHECKS.due("xx", h.sign(square), 2);
        CHECKS.due("xx + x + 1", h.sign(away), 1);
        CHECKS.due("-(xx + x + 1)", h.sign(h.less(h.number(0, 1), away)), -1);
        h.assume(h.other(h.where(square, 0)));
        CHECKS.due("xx but at 0", h.sign(square), 1);
        CHECKS.due("-xx but at 0", h.sign(h.over(square, h.number(-1, 1))), -1);
        h.assume(h.where(wide, 1));
        CHECKS.due("xx - 4 between its zeros", h.sign(wide), -1);
        h.assume(h.where(wide, 0));
        CHECKS.due("xx - 4 at its zeros", h.sign(wide), 0);
        h.assume(h.other(h.where(wide, 2)));
        CHECKS.due("xx - 4 outside", h.sign(wide), 1);
        h.assume(h.other(h.where(wide, 0)));
        CHECKS.due("xx - 4 on both sides of a zero", h.sign(wide), 2);
    }

    private static void signsCantBeTold() {
        FormulaHouse h = new FormulaHouse();
        int cube = Checks.polynomial(h, 0, 0, 0, 1);
        int rootOfTwo = Checks.polynomial(h, -2, 0, 1);
        int point = h.where(Checks.polynomial(h, -1, 1), 0);
        for (int round = 0; round < 2; round++) {
            CHECKS.refuses(h, STATE, "sign(xxx)", () -> h.sign(cube));
            CHECKS.refuses(h, STATE, "sign(xx - 2)", () -> h.sign(rootOfTwo));
            h.assume(point);
        }
    }

    /** Nothing is made: neither 80 things nor a zero with great parts are in the way. */
    private static void signsPastTheLimits() {
        FormulaHouse h = new FormulaHouse();
        int near = h.less(h.times(h.number(60, 1), h.letter()), h.number(1, 60));
        int far = h.less(h.times(h.number(1, 60), h.letter()), h.number(60, 1));
        int right = h.other(h.where(h.less(h.letter(), h.number(1, 60)), 1));
        int left = h.where(h.letter(), 2);
        int sixty = h.where(h.less(h.letter(), h.number(60, 1)), 0);
        CHECKS.due("60x - 1/60 on all", h.sign(near), 2);
        h.assume(right);
        CHECKS.due("60x - 1/60 from 1/60 on", h.sign(near), 1);
        CHECKS.due("x/60 - 60 from 1/60 on", h.sign(far), 2);
        h.assume(left);
        CHECKS.due("60x - 1/60 up to 0", h.sign(near), -1);
        h.assume(sixty);
        CHECKS.due("x/60 - 60 at 60", h.sign(far), -1);
        for (int k = h.count(); k < 80; k++) {
            h.letter();
        }
        CHECKS.due("with 80 things", h.sign(far), -1);
        CHECKS.due("assume with 80 things", h.assume(left), true);
    }

    private static void sameness() {
        FormulaHouse h = new FormulaHouse();
        int half = h.number(1, 2);
        int x = h.letter();
        int zero = h.number(0, 1);
        CHECKS.due("1/2 and 2/4", h.same(half, h.number(2, 4)), true);
        CHECKS.due("1/2 and -1/2", h.same(half, h.number(-1, 2)), false);
        CHECKS.due("1/2 and 1/3", h.same(half, h.number(1, 3)), false);
        CHECKS.due("x and x", h.same(x, h.letter()), true);
        CHECKS.due("x and itself", h.same(x, x), true);
        CHECKS.due("0 and x - x", h.same(zero, h.less(x, x)), true);
        CHECKS.due("0 and x", h.same(zero, x), false);
        CHECKS.due("x and 2x", h.same(x, h.add(x, x)), false);
        CHECKS.due("xxx and xxx + x", h.same(Checks.polynomial(h, 0, 0, 0, 1), Checks.polynomial(h, 0, 1, 0, 1)), false);
        CHECKS.due("xxx and 2xxx", h.same(Checks.polynomial(h, 0, 0, 0, 1), Checks.polynomial(h, 0, 0, 0, 2)), false);
        CHECKS.due("a set and 0", h.same(h.where(x, 0), zero), false);
        CHECKS.due("0 and a set", h.same(zero, h.where(x, 0)), false);
        CHECKS.refuses(h, INDEX, "same(0, -1)", () -> h.same(0, -1));
        CHECKS.refuses(h, INDEX, "same(80, 0)", () -> h.same(80, 0));
        CHECKS.refuses(h, INDEX, "same(0, count)", () -> h.same(0, h.count()));
    }

    private static void samenessOfSets() {
        FormulaHouse h = new FormulaHouse();
        int x = h.letter();
        int open = h.where(x, 1);
        int closed = h.where(x, 2);
        CHECKS.due("open and closed", h.same(open, closed), false);
        CHECKS.due("open twice", h.same(open, h.where(h.add(x, x), 1)), true);
        CHECKS.due("open and its other side", h.same(open, h.where(h.times(x, h.number(-1, 1)), 1)), false);
        CHECKS.due("another end", h.same(open, Checks.leftOf(h, 1, false)), false);
        int none = h.both(open, h.other(open));
        CHECKS.due("none and all", h.same(none, h.other(none)), false);
        CHECKS.due("none twice", h.same(none, h.where(h.number(1, 2), 0)), true);
        CHECKS.due("a point and its other", h.same(h.where(x, 0), h.other(h.where(x, 0))), false);
        int wide = Checks.polynomial(h, -4, 0, 1);
        int half = h.both(h.where(wide, 2), Checks.leftOf(h, 2, false));
        int beyond = h.either(half, Checks.rightOf(h, 2, false));
        CHECKS.due("half", Checks.set(h, half), "[-2, 2)");
        CHECKS.due("beyond", Checks.set(h, beyond), "[-2, 2) (2, ..)");
        CHECKS.due("they differ right of the last end", h.same(half, beyond), false);
        CHECKS.due("they differ at the last end", h.same(half, h.where(wide, 2)), false);
        CHECKS.due("they differ at the first end", h.same(half, h.where(wide, 1)), false);
        CHECKS.due("made in two ways", h.same(h.where(wide, 2), h.either(h.where(wide, 0), half)), true);
    }
}
