import java.util.Objects;

/** What the tests share: checks that count what is wrong, and things of a house written as text. */
final class Checks {
    interface Call {
        Object answer();
    }

    private final String name;
    private int done = 0;
    private int wrong = 0;

    Checks(String name) {
        this.name = name;
    }

    void due(String call, Object got, Object want) {
        done++;
        if (!Objects.equals(got, want)) {
            wrong++;
            System.out.println(name + ": " + call + " answered " + got + ", due is " + want);
        }
    }

    /**
     * The very class is asked for: the machine's own ArrayIndexOutOfBoundsException would be a subclass.
     * That nothing at all changes is seen in Refusals, on new houses, lest one has more than 512 calls.
     */
    void refuses(FormulaHouse house, Class<?> want, String call, Call made) {
        int before = house.count();
        Class<?> got = null;
        try {
            made.answer();
        } catch (RuntimeException e) {
            got = e.getClass();
        }
        due(call + " throws", got, want);
        due("count() behind " + call, house.count(), before);
    }

    void finish() {
        System.out.println(name + ": " + (done - wrong) + " of " + done + " checks hold");
        if (wrong > 0 || done == 0) {
            System.exit(1);
        }
    }

    /** "kind degree: a0 a1 a2 a3". */
    static String formula(FormulaHouse house, int f) {
        StringBuilder out = new StringBuilder();
        out.append(house.kind(f)).append(' ').append(house.degree(f)).append(':');
        for (int power = 0; power <= 3; power++) {
            out.append(' ').append(fraction(house.at(f, power, 0), house.at(f, power, 1)));
        }
        return out.toString();
    }

    /** "(.., -1) [2, 2] (3, 7/2]"; "none" without pieces. */
    static String set(FormulaHouse house, int s) {
        StringBuilder out = new StringBuilder();
        int pieces = house.pieces(s);
        for (int k = 0; k < pieces; k++) {
            out.append(k == 0 ? "" : " ");
            out.append(house.end(s, k, 0, 0) == 2 ? '[' : '(').append(end(house, s, k, 0)).append(", ");
            out.append(end(house, s, k, 1)).append(house.end(s, k, 1, 0) == 2 ? ']' : ')');
        }
        return pieces == 0 ? "none" : out.toString();
    }

    private static String end(FormulaHouse house, int s, int k, int side) {
        String fraction = fraction(house.end(s, k, side, 1), house.end(s, k, side, 2));
        if (house.end(s, k, side, 0) != 0) {
            return fraction;
        }
        return fraction.equals("0") ? ".." : "no end, but " + fraction;
    }

    private static String fraction(int above, int below) {
        return below == 1 ? "" + above : above + "/" + below;
    }

    /** The number above/1. */
    static int whole(FormulaHouse house, int above) {
        return house.number(above, 1);
    }

    /** A polynomial from whole numbers, that of x to the 0 first. */
    static int polynomial(FormulaHouse house, int... wholes) {
        int result = whole(house, wholes[wholes.length - 1]);
        int x = house.letter();
        for (int k = wholes.length - 2; k >= 0; k--) {
            result = house.add(house.times(result, x), whole(house, wholes[k]));
        }
        return result;
    }

    /** All fractions left of a whole number, with it or without it. */
    static int leftOf(FormulaHouse house, int above, boolean closed) {
        return house.where(polynomial(house, -above, 1), closed ? 2 : 1);
    }

    /** All fractions right of a whole number, with it or without it. */
    static int rightOf(FormulaHouse house, int above, boolean closed) {
        return house.where(polynomial(house, above, -1), closed ? 2 : 1);
    }
}
