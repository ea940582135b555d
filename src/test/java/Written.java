/**
 * Things written as text and made in a house, and read from it in the same form: "1/2 0 -3" is 1/2 - 3xx,
 * "(.., 0) [1, 1] (2, 3]" a set of three pieces, "none" the set without one.
 */
final class Written {
    private Written() {
    }

    static int made(FormulaHouse house, String text) {
        boolean set = text.equals("none") || text.startsWith("(") || text.startsWith("[");
        return set ? set(house, text) : formula(house, text.split(" "));
    }

    static String read(FormulaHouse house, int handle) {
        return house.kind(handle) == 2 ? Checks.set(house, handle) : row(house, handle);
    }

    /** The thing that a call makes; or the name of what it throws. It has the next handle. */
    static String thing(FormulaHouse house, Checks.Call call) {
        int next = house.count();
        Object answer = answer(call);
        if (!(answer instanceof Integer handle)) {
            return house.count() == next ? answer.toString() : answer + ", but something was made";
        }
        boolean due = handle == next && house.count() == next + 1;
        return due ? read(house, handle) : "handle " + handle + " of " + house.count() + ", due is " + next;
    }

    /** What a call answers; or the name of what it throws, of the very class. */
    static Object answer(Checks.Call call) {
        try {
            return call.answer();
        } catch (RuntimeException e) {
            return e.getClass().getSimpleName();
        }
    }

    private static int formula(FormulaHouse house, String[] row) {
        int result = number(house, row[row.length - 1]);
        int x = row.length > 1 ? house.letter() : result;
        for (int power = row.length - 2; power >= 0; power--) {
            result = house.times(result, x);
            result = row[power].equals("0") ? result : house.add(result, number(house, row[power]));
        }
        return result;
    }

    static int number(FormulaHouse house, String fraction) {
        String[] parts = fraction.split("/");
        return house.number(Integer.parseInt(parts[0]), parts.length == 1 ? 1 : Integer.parseInt(parts[1]));
    }

    private static int set(FormulaHouse house, String text) {
        if (text.equals("none")) {
            return house.where(number(house, "1"), 0);
        }
        int result = -1;
        for (String piece : text.split("(?<=[\\])]) ")) {
            int made = piece(house, piece);
            result = result < 0 ? made : house.either(result, made);
        }
        return result;
    }

    private static int piece(FormulaHouse house, String text) {
        String[] ends = text.substring(1, text.length() - 1).split(", ");
        int x = house.letter();
        int result = -1;
        if (!ends[0].equals("..")) {
            result = house.where(house.less(number(house, ends[0]), x), text.startsWith("[") ? 2 : 1);
        }
        if (!ends[1].equals("..")) {
            int left = house.where(house.less(x, number(house, ends[1])), text.endsWith("]") ? 2 : 1);
            result = result < 0 ? left : house.both(result, left);
        }
        return result < 0 ? house.where(number(house, "0"), 0) : result;
    }

    /** Says so if the kind, the degree or a power above the degree isn't as due. */
    private static String row(FormulaHouse house, int f) {
        int degree = house.degree(f);
        StringBuilder out = new StringBuilder(fraction(house, f, 0));
        for (int power = 1; power <= degree; power++) {
            out.append(' ').append(fraction(house, f, power));
        }
        String text = out.toString();
        int due = text.equals("0") ? -1 : text.split(" ").length - 1;
        boolean last = degree < 0 || house.at(f, degree, 0) != 0;
        boolean above = fraction(house, f, Math.max(degree, 0) + 1).equals("0");
        if (degree != due || house.kind(f) != (degree > 0 ? 1 : 0) || !last || !above) {
            return text + ", kind " + house.kind(f) + ", degree " + degree;
        }
        return text;
    }

    private static String fraction(FormulaHouse house, int f, int power) {
        int below = house.at(f, power, 1);
        return house.at(f, power, 0) + (below == 1 ? "" : "/" + below);
    }
}
