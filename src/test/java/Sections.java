import java.util.ArrayList;
import java.util.Arrays;
import java.util.List;

/** "What it is" and "Not promised": what the house is in one run, and that no call changes more than is said. */
final class Sections {
    private final Checks checks;
    private final Document document;

    Sections(Checks checks, Document document) {
        this.checks = checks;
        this.document = document;
    }

    void run() {
        headings();
        whatItIs();
        fiveHundredAndTwelveCalls();
        ofNoConcern();
        eachHouseForItself();
        nothingElseChanges();
        assumedStays();
    }

    /** A section that is new would be one without a test. */
    private void headings() {
        List<String> due = new ArrayList<>(List.of("What it is", "The public face", "Terms"));
        for (int promise = 1; promise <= 24; promise++) {
            due.add("Promise " + promise);
        }
        due.add("Not promised");
        checks.due("the document's sections", document.headings(), due);
    }

    private void whatItIs() {
        document.says("What it is", "A house of formulas with handles: numbers, polynomials in x, sets of numbers; sums,"
                + " products, slopes, integrals, one put into another one; where a polynomial is 0 or below it; sets"
                + " together and apart; what is assumed of x, and signs that follow.");
        FormulaHouse h = new FormulaHouse();
        int x = h.letter();
        int half = h.number(-2, -4);
        int sum = h.add(x, half);
        int product = h.times(sum, h.less(x, half));
        checks.due("a number", Written.read(h, half), "1/2");
        checks.due("a sum", Written.read(h, sum), "1/2 1");
        checks.due("a product", Written.read(h, product), "-1/4 0 1");
        checks.due("through a number", Written.read(h, h.over(product, half)), "-1/2 0 2");
        checks.due("a slope", Written.read(h, h.derive(product)), "0 2");
        checks.due("an integral", Written.read(h, h.integral(product)), "0 -1/4 0 1/3");
        checks.due("one put into another one", Written.read(h, h.put(product, sum)), "0 1 1");
        int zero = h.where(product, 0);
        int below = h.where(product, 1);
        checks.due("where it is 0", Written.read(h, zero), "[-1/2, -1/2] [1/2, 1/2]");
        checks.due("where it is below 0", Written.read(h, below), "(-1/2, 1/2)");
        checks.due("sets together", Written.read(h, h.either(zero, below)), "[-1/2, 1/2]");
        checks.due("sets apart", Written.read(h, h.both(h.other(below), h.other(zero))), "(.., -1/2) (1/2, ..)");
        checks.due("what is assumed of x", h.assume(below), true);
        checks.due("the sign that follows", h.sign(product), -1);
        checks.due("the sign of x", h.sign(x), 2);
    }

    private void fiveHundredAndTwelveCalls() {
        document.says("What it is", "An object is used for at most 512 calls after it has been made;"
                + " what later calls answer is free.");
        FormulaHouse h = new FormulaHouse();
        int wrong = 0;
        for (int call = 1; call < 512; call++) {
            int due = Math.min(call - 1, 79);
            int got = call <= 80 ? h.number(call % 60, 1) : call % 2 == 0 ? h.count() - 1 : h.at(79, 0, 0) + 59;
            wrong += got == due ? 0 : 1;
        }
        checks.due("wrong ones of 511 calls", wrong, 0);
        checks.due("call 512", h.at(58, 0, 0), 59);
    }

    /** What is free is left as the machine has it (LANGUAGE.md, rule 6). */
    private void ofNoConcern() {
        document.says("Not promised", "How the state is held inside the object is free, as are the speed of each call, the"
                + " text of toString and the behaviour of equals and hashCode.");
        for (String name : new String[] {"toString", "equals", "hashCode"}) {
            boolean own = Arrays.stream(FormulaHouse.class.getDeclaredMethods()).anyMatch(m -> m.getName().equals(name));
            checks.due("a " + name + " of its own", own, false);
        }
    }

    /** One object by several threads isn't promised; several objects, used in turns, don't meet. */
    private void eachHouseForItself() {
        document.says("Not promised", "Use of one object from several threads at once is not promised to be safe.");
        FormulaHouse[] houses = {new FormulaHouse(), new FormulaHouse(), new FormulaHouse()};
        for (int k = 0; k < houses.length; k++) {
            checks.due("the first handle of house " + k, houses[k].letter(), 0);
        }
        for (int k = 0; k < houses.length; k++) {
            FormulaHouse h = houses[k];
            checks.due("the next handle of house " + k, h.number(k - 1, 1), 1);
            h.assume(h.where(h.less(0, 1), 0));
        }
        for (int k = 0; k < houses.length; k++) {
            checks.due("the number of house " + k, houses[k].at(1, 0, 0), k - 1);
            checks.due("the sign of x in house " + k, houses[k].sign(0), k - 1);
            checks.due("count() of house " + k, houses[k].count(), 4);
        }
    }

    private static String all(FormulaHouse h, int many) {
        StringBuilder out = new StringBuilder();
        for (int handle = 0; handle < many; handle++) {
            out.append(Written.read(h, handle)).append("; ");
        }
        return out.toString();
    }

    /** Each call, and then all things that were there before it. */
    private void nothingElseChanges() {
        document.says("Not promised", "Nothing is promised beyond the answers and state changes described above, and nothing"
                + " about an object after its 512th call.");
        String due = "0 1; 2; -2 1; (.., 2); [2, 2]; 0 0 1; ";
        for (int call = 0; call <= Calls.LAST; call++) {
            FormulaHouse h = sixThings();
            Calls.made(h, call);
            boolean makes = call < Calls.MAKERS;
            checks.due("things behind call " + call, all(h, 6), due);
            checks.due("count() behind call " + call, h.count(), makes ? 7 : 6);
        }
    }

    private static FormulaHouse sixThings() {
        FormulaHouse h = new FormulaHouse();
        h.letter();
        h.number(2, 1);
        h.less(0, 1);
        h.where(2, 1);
        h.where(2, 0);
        h.times(0, 0);
        return h;
    }

    /** Only assume changes what is assumed. */
    private void assumedStays() {
        for (int call = 0; call < Calls.LAST; call++) {
            FormulaHouse h = sixThings();
            h.assume(4);
            Calls.made(h, call);
            checks.due("sign of x - 2 at 2 behind call " + call, h.sign(2), 0);
            checks.due("what is assumed behind call " + call, h.assume(4), false);
        }
        FormulaHouse h = sixThings();
        h.assume(4);
        Calls.made(h, Calls.LAST);
        checks.due("what is assumed behind assume", h.assume(4), true);
    }

    /** Each call of the face on the six things, those that make one first, assume last. */
    private static final class Calls {
        static final int MAKERS = 13;
        static final int LAST = 22;

        static void made(FormulaHouse h, int call) {
            switch (call) {
                case 0 -> h.number(3, 4);
                case 1 -> h.letter();
                case 2 -> h.add(0, 2);
                case 3 -> h.less(5, 0);
                case 4 -> h.times(2, 5);
                case 5 -> h.over(5, 1);
                case 6 -> h.derive(5);
                case 7 -> h.integral(5);
                case 8 -> h.put(5, 2);
                case 9 -> h.where(5, 2);
                case 10 -> h.both(3, 4);
                case 11 -> h.either(3, 4);
                case 12 -> h.other(3);
                case 13 -> h.kind(5);
                case 14 -> h.degree(5);
                case 15 -> h.at(5, 2, 0);
                case 16 -> h.pieces(3);
                case 17 -> h.end(3, 0, 1, 1);
                case 18 -> h.holds(3, 1);
                case 19 -> h.sign(5);
                case 20 -> h.same(3, 4);
                case 21 -> h.count();
                default -> h.assume(3);
            }
        }
    }
}
