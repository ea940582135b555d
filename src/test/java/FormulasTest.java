/** Promises 4 to 10: add, less, times, over, derive, integral, put. */
public final class FormulasTest {
    private static final Checks CHECKS = new Checks("FormulasTest");
    private static final Class<?> ARGUMENT = IllegalArgumentException.class;
    private static final Class<?> ARITHMETIC = ArithmeticException.class;
    private static final Class<?> STATE = IllegalStateException.class;

    public static void main(String[] args) {
        sums();
        differences();
        products();
        quotients();
        slopes();
        integrals();
        putting();
        puttingFarFractions();
        CHECKS.finish();
    }

    private static void sums() {
        FormulaHouse h = new FormulaHouse();
        int f = Checks.polynomial(h, 1, 2, 3);
        int g = Checks.polynomial(h, -5, 4, -3);
        CHECKS.due("sum with the square gone", Checks.formula(h, h.add(f, g)), "1 1: -4 6 0 0");
        int third = h.number(1, 3);
        int sixth = h.number(1, 6);
        CHECKS.due("1/3 + 1/6", Checks.formula(h, h.add(third, sixth)), "0 0: 1/2 0 0 0");
        CHECKS.due("1/3 + f", Checks.formula(h, h.add(third, f)), "1 2: 4/3 2 3 0");
        CHECKS.due("f + f", Checks.formula(h, h.add(f, f)), "1 2: 2 4 6 0");
        int great = h.number(59, 1);
        int seventh = h.number(1, 7);
        int ninth = h.number(1, 9);
        CHECKS.due("59 + 1", Checks.formula(h, h.add(great, h.number(1, 1))), "0 0: 60 0 0 0");
        CHECKS.refuses(h, STATE, "59 + 59", () -> h.add(great, great));
        CHECKS.refuses(h, STATE, "1/7 + 1/9", () -> h.add(seventh, ninth));
    }

    private static void differences() {
        FormulaHouse h = new FormulaHouse();
        int f = Checks.polynomial(h, 1, 2, 3);
        int g = Checks.polynomial(h, -5, 2, 3);
        CHECKS.due("f - g, a number", Checks.formula(h, h.less(f, g)), "0 0: 6 0 0 0");
        CHECKS.due("g - f", Checks.formula(h, h.less(g, f)), "0 0: -6 0 0 0");
        CHECKS.due("f - f", Checks.formula(h, h.less(f, f)), "0 -1: 0 0 0 0");
        int low = h.number(-60, 1);
        int one = h.number(1, 1);
        CHECKS.refuses(h, STATE, "-60 - 1", () -> h.less(low, one));
        CHECKS.due("1 - 1/60", Checks.formula(h, h.less(one, h.number(1, 60))), "0 0: 59/60 0 0 0");
    }

    private static void products() {
        FormulaHouse h = new FormulaHouse();
        int f = Checks.polynomial(h, 1, 2);
        int g = Checks.polynomial(h, 3, -1, 5);
        int zero = h.number(0, 1);
        int cube = h.times(f, g);
        CHECKS.due("(1 + 2x)(3 - x + 5xx)", Checks.formula(h, cube), "1 3: 3 5 3 10");
        CHECKS.due("the other way round", Checks.formula(h, h.times(g, f)), "1 3: 3 5 3 10");
        CHECKS.due("0 times a cube", Checks.formula(h, h.times(zero, cube)), "0 -1: 0 0 0 0");
        CHECKS.due("a cube times 0", Checks.formula(h, h.times(cube, zero)), "0 -1: 0 0 0 0");
        CHECKS.due("2/3 times a cube", Checks.formula(h, h.times(h.number(2, 3), cube)), "1 3: 2 10/3 2 20/3");
        CHECKS.refuses(h, STATE, "degree 4 as 3 + 1", () -> h.times(cube, f));
        CHECKS.refuses(h, STATE, "degree 4 as 2 + 2", () -> h.times(g, g));
        CHECKS.refuses(h, STATE, "degree 6", () -> h.times(cube, cube));
        int eight = h.number(8, 1);
        CHECKS.refuses(h, STATE, "8 times 8", () -> h.times(eight, eight));
        CHECKS.due("60/59 times 59/60", Checks.formula(h, h.times(h.number(60, 59), h.number(59, 60))), "0 0: 1 0 0 0");
    }

    private static void quotients() {
        FormulaHouse h = new FormulaHouse();
        int f = Checks.polynomial(h, 9, -6, 0, 3);
        CHECKS.due("f / (-3/2)", Checks.formula(h, h.over(f, h.number(-3, 2))), "1 3: -6 4 0 -2");
        int zero = h.number(0, 1);
        int sixty = h.number(60, 1);
        CHECKS.due("0 / 60", Checks.formula(h, h.over(zero, sixty)), "0 -1: 0 0 0 0");
        CHECKS.due("60 / 60", Checks.formula(h, h.over(sixty, sixty)), "0 0: 1 0 0 0");
        CHECKS.refuses(h, ARITHMETIC, "f / 0", () -> h.over(f, zero));
        CHECKS.refuses(h, ARITHMETIC, "0 / 0", () -> h.over(zero, zero));
        CHECKS.refuses(h, ARGUMENT, "f / f", () -> h.over(f, f));
        CHECKS.refuses(h, ARGUMENT, "0 / f", () -> h.over(zero, f));
        int half = h.number(1, 2);
        CHECKS.refuses(h, STATE, "60 / (1/2)", () -> h.over(sixty, half));
        CHECKS.refuses(h, STATE, "1/2 / 60", () -> h.over(half, sixty));
    }

    private static void slopes() {
        FormulaHouse h = new FormulaHouse();
        int f = Checks.polynomial(h, 9, -6, 5, 3);
        CHECKS.due("slope of a cube", Checks.formula(h, h.derive(f)), "1 2: -6 10 9 0");
        CHECKS.due("slope of x", Checks.formula(h, h.derive(h.letter())), "0 0: 1 0 0 0");
        int number = h.number(7, 3);
        CHECKS.due("slope of a number", Checks.formula(h, h.derive(number)), "0 -1: 0 0 0 0");
        CHECKS.due("slope of 0", Checks.formula(h, h.derive(h.number(0, 1))), "0 -1: 0 0 0 0");
        int steep = Checks.polynomial(h, 0, 0, 0, 21);
        CHECKS.refuses(h, STATE, "slope of 21xxx", () -> h.derive(steep));
        int half = h.over(Checks.polynomial(h, 0, 0, 59), h.number(2, 1));
        CHECKS.due("slope of 59/2 xx", Checks.formula(h, h.derive(half)), "1 1: 0 59 0 0");
    }

    private static void integrals() {
        FormulaHouse h = new FormulaHouse();
        int f = Checks.polynomial(h, 4, -6, 5);
        CHECKS.due("integral of a square", Checks.formula(h, h.integral(f)), "1 3: 0 4 -3 5/3");
        CHECKS.due("integral of a number", Checks.formula(h, h.integral(h.number(-2, 3))), "1 1: 0 -2/3 0 0");
        CHECKS.due("integral of 0", Checks.formula(h, h.integral(h.number(0, 1))), "0 -1: 0 0 0 0");
        int cube = Checks.polynomial(h, 0, 0, 0, 1);
        CHECKS.refuses(h, STATE, "integral of a cube", () -> h.integral(cube));
        int small = h.times(h.number(1, 31), h.letter());
        CHECKS.refuses(h, STATE, "integral of x/31", () -> h.integral(small));
        int fits = h.times(h.number(1, 30), h.letter());
        CHECKS.due("integral of x/30", Checks.formula(h, h.integral(fits)), "1 2: 0 0 1/60 0");
    }

    private static void putting() {
        FormulaHouse h = new FormulaHouse();
        int cube = Checks.polynomial(h, 1, -1, 2, 1);
        int line = Checks.polynomial(h, -1, 2);
        int zero = h.number(0, 1);
        CHECKS.due("a cube with a line inside", Checks.formula(h, h.put(cube, line)), "1 3: 3 -4 -4 8");
        CHECKS.due("a line with a cube inside", Checks.formula(h, h.put(line, cube)), "1 3: 1 -2 4 2");
        CHECKS.due("a cube at 0", Checks.formula(h, h.put(cube, zero)), "0 0: 1 0 0 0");
        CHECKS.due("a cube at 1/2", Checks.formula(h, h.put(cube, h.number(1, 2))), "0 0: 9/8 0 0 0");
        CHECKS.due("a line at its zero", Checks.formula(h, h.put(line, h.number(1, 2))), "0 -1: 0 0 0 0");
        CHECKS.due("a number with a cube inside", Checks.formula(h, h.put(h.number(5, 3), cube)), "0 0: 5/3 0 0 0");
        CHECKS.due("0 with a cube inside", Checks.formula(h, h.put(zero, cube)), "0 -1: 0 0 0 0");
        CHECKS.due("0 with 0 inside", Checks.formula(h, h.put(zero, zero)), "0 -1: 0 0 0 0");
        int square = Checks.polynomial(h, 0, 0, 1);
        CHECKS.refuses(h, STATE, "degree 4", () -> h.put(square, square));
        CHECKS.refuses(h, STATE, "degree 6", () -> h.put(square, cube));
        CHECKS.refuses(h, STATE, "degree 9", () -> h.put(cube, cube));
        int sixty = h.number(60, 1);
        CHECKS.refuses(h, STATE, "60 squared", () -> h.put(square, sixty));
    }

    /** Parts on the way are far above 60 though the answer isn't. */
    private static void puttingFarFractions() {
        FormulaHouse h = new FormulaHouse();
        int x = h.letter();
        int far = h.less(x, h.number(59, 60));
        int back = h.add(x, h.number(59, 60));
        CHECKS.due("x - 59/60 + 59/60", Checks.formula(h, h.put(far, back)), "1 1: 0 1 0 0");
        int scaled = h.over(x, h.number(1, 60));
        int shrunk = h.times(x, h.number(1, 60));
        int product = h.times(scaled, shrunk);
        CHECKS.due("60x times x/60", Checks.formula(h, product), "1 2: 0 0 1 0");
        int cubeAway = Checks.polynomial(h, -27, 27, -9, 1);
        int shift = Checks.polynomial(h, 3, 3);
        CHECKS.due("(x - 3)^3 at 3x + 3", Checks.formula(h, h.put(cubeAway, shift)), "1 3: 0 0 0 27");
        int fractions = h.over(Checks.polynomial(h, 59, 53, 47, 43), h.number(60, 1));
        int inner = h.over(Checks.polynomial(h, 58, 59), h.number(57, 1));
        CHECKS.refuses(h, STATE, "parts far above 60", () -> h.put(fractions, inner));
    }
}
