import java.util.ArrayList;
import java.util.List;

/** Of several exceptions the first one behind "throws", for each maker of promises 2 to 14; and 80 things. */
public final class RefusalsTest {
    private static final Checks CHECKS = new Checks("RefusalsTest");
    private static final Class<?> INDEX = IndexOutOfBoundsException.class;
    private static final Class<?> ARGUMENT = IllegalArgumentException.class;
    private static final Class<?> ARITHMETIC = ArithmeticException.class;
    private static final Class<?> STATE = IllegalStateException.class;
    private static final int[] MISSING = {-1, 80, Integer.MIN_VALUE, Integer.MAX_VALUE};

    /** Handles of the house that is tried: x, 0, a set; in a full one numbers follow. */
    private static final int X = 0;
    private static final int ZERO = 1;
    private static final int SET = 2;
    private static final int NUMBER = 3;

    interface Pair {
        int made(FormulaHouse house, int first, int second);
    }

    interface Single {
        int made(FormulaHouse house, int handle);
    }

    public static void main(String[] args) {
        for (boolean full : new boolean[] {false, true}) {
            pairsOfFormulas(full);
            singles(full);
            divisions(full);
            pairsOfSets(full);
        }
        fullHouse();
        CHECKS.finish();
    }

    private static FormulaHouse house(boolean full) {
        FormulaHouse h = new FormulaHouse();
        h.letter();
        h.number(0, 1);
        h.where(X, 1);
        return full ? filled(h) : h;
    }

    private static FormulaHouse filled(FormulaHouse h) {
        for (int k = h.count(); k < 80; k++) {
            h.number(k % 7, 1);
        }
        return h;
    }

    private static List<Pair> formulaPairs() {
        List<Pair> pairs = new ArrayList<>();
        pairs.add((h, f, g) -> h.add(f, g));
        pairs.add((h, f, g) -> h.less(f, g));
        pairs.add((h, f, g) -> h.times(f, g));
        pairs.add((h, f, g) -> h.put(f, g));
        pairs.add((h, f, g) -> h.over(f, g));
        return pairs;
    }

    private static void pairsOfFormulas(boolean full) {
        FormulaHouse h = house(full);
        int number = 0;
        for (Pair pair : formulaPairs()) {
            String name = "maker " + number + (full ? " of a full house" : "");
            for (int missing : MISSING) {
                CHECKS.refuses(h, INDEX, name + "(missing, x)", () -> pair.made(h, missing, X));
                CHECKS.refuses(h, INDEX, name + "(x, missing)", () -> pair.made(h, X, missing));
                CHECKS.refuses(h, INDEX, name + "(set, missing)", () -> pair.made(h, SET, missing));
                CHECKS.refuses(h, INDEX, name + "(missing, set)", () -> pair.made(h, missing, SET));
            }
            CHECKS.refuses(h, INDEX, name + "(set, count)", () -> pair.made(h, SET, h.count()));
            CHECKS.refuses(h, ARGUMENT, name + "(x, set)", () -> pair.made(h, X, SET));
            CHECKS.refuses(h, ARGUMENT, name + "(set, x)", () -> pair.made(h, SET, X));
            CHECKS.refuses(h, ARGUMENT, name + "(set, 0)", () -> pair.made(h, SET, ZERO));
            CHECKS.refuses(h, ARGUMENT, name + "(set, set)", () -> pair.made(h, SET, SET));
            number++;
        }
    }

    private static void singles(boolean full) {
        FormulaHouse h = house(full);
        List<Single> makers = new ArrayList<>();
        makers.add((house, f) -> house.derive(f));
        makers.add((house, f) -> house.integral(f));
        makers.add((house, f) -> house.where(f, 0));
        int number = 0;
        for (Single maker : makers) {
            String name = "single " + number + (full ? " of a full house" : "");
            for (int missing : MISSING) {
                CHECKS.refuses(h, INDEX, name + "(missing)", () -> maker.made(h, missing));
            }
            CHECKS.refuses(h, INDEX, name + "(count)", () -> maker.made(h, h.count()));
            CHECKS.refuses(h, ARGUMENT, name + "(set)", () -> maker.made(h, SET));
            number++;
        }
        for (int missing : MISSING) {
            CHECKS.refuses(h, INDEX, "other(missing)", () -> h.other(missing));
        }
        CHECKS.refuses(h, ARGUMENT, "other(x)", () -> h.other(X));
        CHECKS.refuses(h, ARGUMENT, "other(0)", () -> h.other(ZERO));
        CHECKS.refuses(h, ARGUMENT, "where(x, 3)", () -> h.where(X, 3));
        CHECKS.refuses(h, INDEX, "where(missing, 3)", () -> h.where(80, 3));
    }

    private static void divisions(boolean full) {
        FormulaHouse h = house(full);
        CHECKS.refuses(h, ARITHMETIC, "over(x, 0)", () -> h.over(X, ZERO));
        CHECKS.refuses(h, ARGUMENT, "over(set, 0)", () -> h.over(SET, ZERO));
        CHECKS.refuses(h, ARGUMENT, "over(0, x)", () -> h.over(ZERO, X));
        CHECKS.refuses(h, INDEX, "over(80, 0)", () -> h.over(80, ZERO));
        CHECKS.refuses(h, ARITHMETIC, "number(61, 0)", () -> h.number(61, 0));
        CHECKS.refuses(h, STATE, "number(61, 1)", () -> h.number(61, 1));
    }

    private static void pairsOfSets(boolean full) {
        FormulaHouse h = house(full);
        List<Pair> pairs = new ArrayList<>();
        pairs.add((house, s, t) -> house.both(s, t));
        pairs.add((house, s, t) -> house.either(s, t));
        int number = 0;
        for (Pair pair : pairs) {
            String name = "maker of sets " + number + (full ? " of a full house" : "");
            for (int missing : MISSING) {
                CHECKS.refuses(h, INDEX, name + "(missing, set)", () -> pair.made(h, missing, SET));
                CHECKS.refuses(h, INDEX, name + "(set, missing)", () -> pair.made(h, SET, missing));
                CHECKS.refuses(h, INDEX, name + "(x, missing)", () -> pair.made(h, X, missing));
            }
            CHECKS.refuses(h, ARGUMENT, name + "(x, set)", () -> pair.made(h, X, SET));
            CHECKS.refuses(h, ARGUMENT, name + "(set, 0)", () -> pair.made(h, SET, ZERO));
            number++;
        }
    }

    private static void fullHouse() {
        FormulaHouse h = house(true);
        CHECKS.due("count()", h.count(), 80);
        CHECKS.due("the last one", h.at(79, 0, 0), 79 % 7);
        for (Pair pair : formulaPairs()) {
            CHECKS.refuses(h, STATE, "a maker of a full house", () -> pair.made(h, X, NUMBER));
        }
        CHECKS.refuses(h, STATE, "number", () -> h.number(1, 1));
        CHECKS.refuses(h, STATE, "letter", () -> h.letter());
        CHECKS.refuses(h, STATE, "derive", () -> h.derive(X));
        CHECKS.refuses(h, STATE, "integral", () -> h.integral(X));
        CHECKS.refuses(h, STATE, "where", () -> h.where(X, 0));
        CHECKS.refuses(h, STATE, "both", () -> h.both(SET, SET));
        CHECKS.refuses(h, STATE, "either", () -> h.either(SET, SET));
        CHECKS.refuses(h, STATE, "other", () -> h.other(SET));
    }
}
