/** Promises 15 to 24, each by its own words: what is asked, at the edges of what there is. */
final class AskingPromises {
    private static final String INDEX = "IndexOutOfBoundsException";
    private static final String ARGUMENT = "IllegalArgumentException";
    private static final String STATE = "IllegalStateException";
    private static final int LEAST = Integer.MIN_VALUE;
    private static final int MOST = Integer.MAX_VALUE;

    private final Checks checks;
    private final Document document;

    interface Single {
        Object answer(FormulaHouse house, int handle);
    }

    interface Pair {
        Object answer(FormulaHouse house, int first, int second);
    }

    AskingPromises(Checks checks, Document document) {
        this.checks = checks;
        this.document = document;
    }

    void run() {
        kind();
        degree();
        atPowers();
        atPowersThatAreNot();
        atAnotherPart();
        pieces();
        endForms();
        endFractions();
        endAnotherSideOrPart();
        endOfManyPieces();
        holds();
        assume();
        assumeWithoutPieces();
        signs();
        signsThatAreMixed();
        signsPastTheParts();
        same();
        count();
    }

    private void single(String name, Single single, Object[][] rows) {
        for (Object[] row : rows) {
            FormulaHouse h = new FormulaHouse();
            int handle = Written.made(h, (String) row[0]);
            checks.due(name + "(" + row[0] + ")", Written.answer(() -> single.answer(h, handle)), row[1]);
        }
    }

    private void pair(String name, Pair pair, Object[][] rows) {
        for (Object[] row : rows) {
            FormulaHouse h = new FormulaHouse();
            int first = Written.made(h, (String) row[0]);
            int second = Written.made(h, (String) row[1]);
            String call = name + "(" + row[0] + "; " + row[1] + ")";
            checks.due(call, Written.answer(() -> pair.answer(h, first, second)), row[2]);
        }
    }

    private void kind() {
        document.says("Promise 15", "The KIND.");
        single("kind", (h, f) -> h.kind(f), new Object[][] {
            {"0", 0}, {"-60", 0}, {"0 1/60", 1}, {"0 0 1", 1}, {"0 0 0 1", 1}, {"none", 2}, {"(.., ..)", 2},
            {"[0, 0]", 2},
        });
        FormulaHouse h = new FormulaHouse();
        int x = h.letter();
        for (int handle : new int[] {-1, x + 1, 79, 80, 256, 1 << 16, LEAST, MOST}) {
            checks.due("kind(" + handle + ")", Written.answer(() -> h.kind(handle)), INDEX);
        }
    }

    private void degree() {
        document.says("Promise 16", "The degree of a NUMBER (-1 of 0), or POLYNOMIAL.");
        single("degree", (h, f) -> h.degree(f), new Object[][] {
            {"0", -1}, {"1/60", 0}, {"-60", 0}, {"0 1", 1}, {"60 -1/60", 1}, {"0 0 1", 2}, {"0 0 0 1", 3},
            {"1 1 1 -1", 3}, {"none", ARGUMENT}, {"(.., ..)", ARGUMENT},
        });
        FormulaHouse h = new FormulaHouse();
        int x = h.letter();
        checks.due("degree(x - x)", h.degree(h.less(x, x)), -1);
        checks.due("degree(slope of x)", h.degree(h.derive(x)), 0);
    }

    private void atPowers() {
        document.says("Promise 17", "The FRACTION at a power of x, part 0 or 1;");
        FormulaHouse h = new FormulaHouse();
        int f = Written.made(h, "-60 1/60 0 -59/58");
        int[][] rows = {{0, -60, 1}, {1, 1, 60}, {2, 0, 1}, {3, -59, 58}};
        for (int[] row : rows) {
            checks.due("above at " + row[0], h.at(f, row[0], 0), row[1]);
            checks.due("below at " + row[0], h.at(f, row[0], 1), row[2]);
        }
        single("at power 0, above,", (house, g) -> house.at(g, 0, 0), new Object[][] {
            {"0", 0}, {"-2/3", -2}, {"none", ARGUMENT},
        });
        single("at power 0, below,", (house, g) -> house.at(g, 0, 1), new Object[][] {
            {"0", 1}, {"-2/3", 3}, {"none", ARGUMENT},
        });
    }

    private void atPowersThatAreNot() {
        document.says("Promise 17", "0 for powers that it doesn't have.");
        for (String text : new String[] {"0", "7", "0 1", "1 1 1", "1 1 1 1"}) {
            FormulaHouse h = new FormulaHouse();
            int f = Written.made(h, text);
            int first = h.degree(f) + 1;
            for (int power : new int[] {first, first + 1, 4, 80, 256, 1 << 16, MOST, -1, -4, LEAST}) {
                checks.due("above of " + text + " at " + power, h.at(f, power, 0), 0);
                checks.due("below of " + text + " at " + power, h.at(f, power, 1), 1);
            }
        }
    }

    private void atAnotherPart() {
        document.says("Promise 17", "IllegalArgumentException: also another part.");
        for (int part : new int[] {-1, 2, 3, 256, 1 << 16, LEAST, MOST}) {
            Object[][] refused = {{"0", ARGUMENT}, {"0 1", ARGUMENT}, {"none", ARGUMENT}};
            single("at power 0, part " + part, (h, f) -> h.at(f, 0, part), refused);
            single("at power 9, part " + part, (h, f) -> h.at(f, 9, part), refused);
        }
    }

    private void pieces() {
        document.says("Promise 18", "How many PIECES a SET has.");
        single("pieces", (h, s) -> h.pieces(s), new Object[][] {
            {"none", 0}, {"(.., ..)", 1}, {"[0, 0]", 1}, {"(.., 0)", 1}, {"(.., 0) (0, ..)", 2},
            {"[-60, -60] (0, 1) [60, ..)", 3}, {"0", ARGUMENT}, {"0 1", ARGUMENT}, {"0 0 0 1", ARGUMENT},
        });
    }

    private void endForms() {
        document.says("Promise 19", "Of PIECE k, side 0 (left) or 1: part 0: whether there is no END (0), one that doesn't"
                + " belong to it (1), one that does (2);");
        Object[][] rows = {
            {"(.., ..)", 0, 0}, {"(.., 1)", 0, 1}, {"(.., 1]", 0, 2}, {"(0, ..)", 1, 0}, {"[0, ..)", 2, 0},
            {"(0, 1)", 1, 1},
            {"(0, 1]", 1, 2}, {"[0, 1)", 2, 1}, {"[0, 1]", 2, 2}, {"[0, 0]", 2, 2}, {"(.., 0) (0, ..)", 0, 1},
        };
        for (Object[] row : rows) {
            FormulaHouse h = new FormulaHouse();
            int set = Written.made(h, (String) row[0]);
            checks.due("left form of " + row[0], h.end(set, 0, 0, 0), row[1]);
            checks.due("right form of " + row[0], h.end(set, 0, 1, 0), row[2]);
        }
    }

    private void endFractions() {
        document.says("Promise 19", "1, 2: the END, above, below (0 and 1 if there is none).");
        int[][] rows = {
            {0, 0, 0, 1}, {0, 1, -60, 1}, {1, 0, -1, 60}, {1, 1, -1, 60}, {2, 0, 0, 1}, {2, 1, 59, 60}, {3, 0, 60, 1},
            {3, 1, 0, 1},
        };
        FormulaHouse h = new FormulaHouse();
        int set = Written.made(h, "(.., -60) [-1/60, -1/60] (0, 59/60] (60, ..)");
        for (int[] row : rows) {
            checks.due("above of piece " + row[0] + ", side " + row[1], h.end(set, row[0], row[1], 1), row[2]);
            checks.due("below of piece " + row[0] + ", side " + row[1], h.end(set, row[0], row[1], 2), row[3]);
        }
        int all = Written.made(h, "(.., ..)");
        checks.due("all, left, above", h.end(all, 0, 0, 1), 0);
        checks.due("all, left, below", h.end(all, 0, 0, 2), 1);
        checks.due("all, right, above", h.end(all, 0, 1, 1), 0);
        checks.due("all, right, below", h.end(all, 0, 1, 2), 1);
    }

    private void endAnotherSideOrPart() {
        document.says("Promise 19", "IllegalArgumentException: also another side, part.");
        for (int wrong : new int[] {-1, 3, 4, 256, 1 << 16, LEAST, MOST}) {
            Object[][] refused = {{"(.., ..)", ARGUMENT}, {"[1, 2]", ARGUMENT}, {"0", ARGUMENT}};
            single("end 0, side " + wrong, (h, s) -> h.end(s, 0, wrong, 0), refused);
            single("end 0, part " + wrong, (h, s) -> h.end(s, 0, 1, wrong), refused);
            Object[][] noPiece = {{"(.., ..)", INDEX}, {"[1, 2]", INDEX}, {"0", ARGUMENT}};
            single("end 1, side, part " + wrong, (h, s) -> h.end(s, 1, wrong, wrong), noPiece);
        }
        single("end 0, side 2", (h, s) -> h.end(s, 0, 2, 0), new Object[][] {{"(.., ..)", ARGUMENT}, {"none", INDEX}});
    }

    private void endOfManyPieces() {
        FormulaHouse h = new FormulaHouse();
        int square = Written.made(h, "0 0 1");
        int points = h.where(square, 0);
        for (int k = 1; k <= 7; k++) {
            points = h.either(h.where(h.less(square, h.number(k * k, 1)), 0), points);
        }
        int gaps = h.other(points);
        checks.due("fifteen points", h.pieces(points), 15);
        checks.due("sixteen gaps", h.pieces(gaps), 16);
        for (int k = 0; k < 15; k++) {
            checks.due("point " + k, h.end(points, k, 0, 1), k - 7);
            checks.due("right of gap " + k, h.end(gaps, k, 1, 1), k - 7);
            checks.due("left of gap " + (k + 1), h.end(gaps, k + 1, 0, 1), k - 7);
        }
        int set = points;
        checks.due("point 15", Written.answer(() -> h.end(set, 15, 0, 0)), INDEX);
        checks.due("gap 16", Written.answer(() -> h.end(gaps, 16, 0, 0)), INDEX);
    }

    private void holds() {
        document.says("Promise 20", "Whether a NUMBER is in a SET.");
        pair("holds", (h, s, v) -> h.holds(s, v), new Object[][] {
            {"none", "0", false}, {"(.., ..)", "0", true}, {"(.., ..)", "-60", true}, {"(.., ..)", "1/60", true},
            {"[0, 0]", "0", true}, {"[0, 0]", "1/60", false}, {"[0, 0]", "-1/60", false}, {"(0, 1)", "0", false},
            {"(0, 1)", "1/60", true}, {"(0, 1)", "59/60", true}, {"(0, 1)", "1", false}, {"[0, 1]", "0", true},
            {"[0, 1]", "1", true}, {"[0, 1]", "60/59", false}, {"(.., 0) (0, ..)", "0", false},
            {"(.., 0) (0, ..)", "1/60", true}, {"(.., 0) (0, ..)", "-1/60", true}, {"(.., -60)", "-60", false},
            {"(.., -60]", "-60", true}, {"[60, ..)", "60", true}, {"(60, ..)", "60", false},
            {"(1/60, 1/59)", "1/60", false}, {"(1/60, 1/59)", "1/59", false}, {"(58/59, 60/59)", "59/60", true},
            {"(0, 1)", "0 1", ARGUMENT}, {"(0, 1)", "0 0 0 1", ARGUMENT}, {"(0, 1)", "(0, 1)", ARGUMENT},
            {"0", "0", ARGUMENT}, {"0 1", "0", ARGUMENT}, {"1", "(0, 1)", ARGUMENT},
        });
    }

    private void assume() {
        document.says("Promise 21", "A SET is ASSUMED: whether it isn't the one that was.");
        pair("assume", (h, s, t) -> h.assume(s) + " " + h.assume(t) + " " + h.assume(t), new Object[][] {
            {"(.., ..)", "(.., ..)", "false false false"}, {"(.., ..)", "[0, 0]", "false true false"},
            {"[0, 0]", "(.., ..)", "true true false"}, {"(0, 1)", "(0, 1)", "true false false"},
            {"(0, 1)", "[0, 1)", "true true false"}, {"(0, 1)", "(0, 1]", "true true false"},
            {"(0, 1)", "(0, 2)", "true true false"}, {"(.., 0)", "(.., 0]", "true true false"},
            {"(.., 0)", "(0, ..)", "true true false"}, {"(.., 0) (0, ..)", "(.., ..)", "true true false"},
            {"(.., 0) (0, ..)", "[0, 0]", "true true false"}, {"[1, 1] [2, 2]", "[1, 1] [2, 2]", "true false false"},
        });
        single("assume", (h, f) -> h.assume(f), new Object[][] {{"0", ARGUMENT}, {"0 1", ARGUMENT}, {"0 0 0 1", ARGUMENT}});
    }

    private void assumeWithoutPieces() {
        document.says("Promise 21", "IllegalArgumentException: also a SET without PIECES.");
        single("assume", (h, s) -> h.assume(s), new Object[][] {{"none", ARGUMENT}});
        FormulaHouse h = new FormulaHouse();
        int left = Written.made(h, "(.., 0)");
        int none = h.both(left, Written.made(h, "(0, ..)"));
        int x = Written.made(h, "0 1");
        h.assume(left);
        checks.due("assume(nothing is in both)", Written.answer(() -> h.assume(none)), ARGUMENT);
        checks.due("still left of 0", h.sign(x), -1);
        checks.due("still the one that was", h.assume(left), false);
    }

    private static Object signOn(FormulaHouse h, int f, int assumed) {
        h.assume(assumed);
        return h.sign(f);
    }

    private void signs() {
        document.says("Promise 22", "The sign of f at all fractions that are ASSUMED: 1, 0, -1;");
        pair("sign", AskingPromises::signOn, new Object[][] {
            {"0", "(.., ..)", 0}, {"1/60", "(.., ..)", 1}, {"-1/60", "(.., ..)", -1}, {"0", "[1, 1]", 0},
            {"60", "[1, 1]", 1},
            {"0 1", "(.., 0)", -1}, {"0 1", "(0, ..)", 1}, {"0 1", "[0, 0]", 0}, {"0 1", "[1/60, 1/60]", 1},
            {"0 1", "(0, 1/60)", 1}, {"0 -1", "(0, ..)", -1}, {"0 -1", "(.., 0)", 1}, {"0 -1", "[0, 0]", 0},
            {"0 0 1", "[0, 0]", 0}, {"0 0 1", "(.., 0) (0, ..)", 1}, {"0 0 -1", "(.., 0) (0, ..)", -1},
            {"0 0 -1", "[1, 1]", -1}, {"-4 0 1", "(-2, 2)", -1}, {"-4 0 1", "[-2, -2] [2, 2]", 0},
            {"-4 0 1", "[-2, -2]", 0},
            {"-4 0 1", "(.., -2) (2, ..)", 1}, {"4 0 -1", "(.., -2) (2, ..)", -1}, {"4 0 -1", "(-2, 2)", 1},
            {"-4 0 1", "[-60, -59] [3, ..)", 1}, {"1 1 1", "(.., ..)", 1}, {"-1 1 -1", "(.., ..)", -1},
            {"1 0 1", "[0, 0]", 1},
            {"0 0 0 1", "[1, 1]", STATE}, {"0 0 0 1", "(.., ..)", STATE}, {"-2 0 1", "[1, 1]", STATE},
            {"-2 0 1", "(.., ..)", STATE}, {"(.., ..)", "[1, 1]", ARGUMENT},
        });
    }

    private void signsThatAreMixed() {
        document.says("Promise 22", "2 if it isn't the same at all.");
        pair("sign", AskingPromises::signOn, new Object[][] {
            {"0 1", "(.., ..)", 2}, {"0 1", "(.., 0]", 2}, {"0 1", "[0, ..)", 2}, {"0 1", "(.., 0) (0, ..)", 2},
            {"0 1", "[-1, -1] [1, 1]", 2}, {"0 1", "[0, 0] [1, 1]", 2}, {"0 1", "[-1, -1] [0, 0]", 2},
            {"0 1", "[-1, -1] [0, 0] [1, 1]", 2}, {"0 1", "(-1/60, 1/60)", 2}, {"0 0 1", "(.., ..)", 2},
            {"0 0 1", "[0, ..)", 2}, {"0 0 -1", "(.., ..)", 2}, {"-4 0 1", "[-2, 2)", 2}, {"-4 0 1", "(-2, 2]", 2},
            {"-4 0 1", "(.., -2] (2, ..)", 2}, {"-4 0 1", "[-2, -2] [3, 3]", 2}, {"-4 0 1", "(.., -2) (-2, ..)", 2},
            {"-4 0 1", "[-3, -3] [0, 0]", 2}, {"4 0 -1", "(.., ..)", 2},
        });
    }

    /** Nothing is made, so zeros may have parts above 60; 80 things are no hindrance either (see Refusals). */
    private void signsPastTheParts() {
        pair("sign", AskingPromises::signOn, new Object[][] {
            {"-31 1/2", "(.., ..)", 2}, {"-31 1/2", "[60, 60]", -1}, {"-31 1/2", "(.., 60]", -1},
            {"-31 1/2", "[60, ..)", 2},
            {"-1/60 60", "(0, 1/60)", 2}, {"-1/60 60", "[1/60, ..)", 1}, {"-1/60 60", "(.., 0]", -1},
            {"-60 1/60", "(.., 60)", -1}, {"57/56 -49/60 -43/56", "[0, 1/2]", 1},
            {"57/56 -49/60 -43/56", "[3/4, ..)", -1},
            {"57/56 -49/60 -43/56", "(.., -2]", -1}, {"57/56 -49/60 -43/56", "(-9/5, 1]", 2},
        });
    }

    private void same() {
        document.says("Promise 23", "Whether two THINGS are the same (of two KINDS they aren't).");
        pair("same", (h, f, g) -> h.same(f, g) + " " + h.same(g, f), new Object[][] {
            {"0", "0", "true true"}, {"1/2", "1/2", "true true"}, {"1/2", "-1/2", "false false"},
            {"1/2", "1/3", "false false"}, {"1/60", "1/59", "false false"}, {"0", "0 1", "false false"},
            {"1", "0 1", "false false"}, {"0 1", "0 1", "true true"}, {"0 1", "0 0 1", "false false"},
            {"1 2 3 4", "1 2 3 4", "true true"}, {"1 2 3 4", "2 2 3 4", "false false"},
            {"1 2 3 4", "1 2 4 4", "false false"},
            {"1 2 3 4", "1 3 3 4", "false false"}, {"1 2 3 4", "1 2 3 5", "false false"},
            {"1 2 3", "1 2 3 4", "false false"},
            {"none", "none", "true true"}, {"(.., ..)", "(.., ..)", "true true"}, {"none", "(.., ..)", "false false"},
            {"none", "0", "false false"}, {"[0, 0]", "0", "false false"}, {"(.., ..)", "0 1", "false false"},
            {"(0, 1)", "(0, 1]", "false false"}, {"(0, 1)", "[0, 1)", "false false"},
            {"(0, 1)", "(0, 2)", "false false"},
            {"(0, 1) (1, 2)", "(0, 2)", "false false"}, {"[0, 0]", "(.., 0) (0, ..)", "false false"},
            {"(.., 0)", "(0, ..)", "false false"}, {"[1, 1] (2, 3]", "[1, 1] (2, 3]", "true true"},
        });
        FormulaHouse h = new FormulaHouse();
        int x = h.letter();
        int set = h.where(x, 1);
        checks.due("x and itself", h.same(x, x), true);
        checks.due("a set and itself", h.same(set, set), true);
        checks.due("x - x and 0", h.same(h.less(x, x), h.number(0, -7)), true);
        checks.due("a set made in two ways", h.same(set, h.other(h.where(h.less(h.number(0, 1), x), 2))), true);
    }

    private void count() {
        document.says("Promise 24", "How many THINGS there are.");
        FormulaHouse h = new FormulaHouse();
        for (int k = 0; k < 80; k++) {
            checks.due("count() behind " + k, h.count(), k);
            h.letter();
        }
        checks.due("count() behind 80", h.count(), 80);
        checks.due("letter() once more", Written.answer(() -> h.letter()), STATE);
        checks.due("count() behind the refusal", h.count(), 80);
        checks.due("and once more", h.count(), 80);
    }
}
