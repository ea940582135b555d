/** Promises 1 to 14, each by its own words: what is made, at the edges of what can be made. */
final class MakingPromises {
    private static final String ARGUMENT = "IllegalArgumentException";
    private static final String ARITHMETIC = "ArithmeticException";
    private static final String STATE = "IllegalStateException";

    private final Checks checks;
    private final Document document;

    interface Pair {
        int made(FormulaHouse house, int first, int second);
    }

    MakingPromises(Checks checks, Document document) {
        this.checks = checks;
        this.document = document;
    }

    void run() {
        newObject();
        number();
        letter();
        add();
        less();
        times();
        over();
        derive();
        integral();
        put();
        whereZeroOrBelow();
        whereAnotherOp();
        both();
        either();
        other();
        withItself();
    }

    /** Rows of two things and what is made of them, each in a new house. */
    private void pairs(String name, Pair pair, String[][] rows) {
        for (String[] row : rows) {
            FormulaHouse h = new FormulaHouse();
            int first = Written.made(h, row[0]);
            int second = Written.made(h, row[1]);
            String made = Written.thing(h, () -> pair.made(h, first, second));
            checks.due(name + "(" + row[0] + "; " + row[1] + ")", made, row[2]);
            checks.due("the first one behind " + name, Written.read(h, first), row[0]);
            checks.due("the second one behind " + name, Written.read(h, second), row[1]);
        }
    }

    private void singles(String name, Pair pair, String[][] rows) {
        for (String[] row : rows) {
            pairs(name, pair, new String[][] {{row[0], "0", row[1]}});
        }
    }

    private void newObject() {
        document.says("Promise 1", "Nothing is there; all is ASSUMED.");
        FormulaHouse h = new FormulaHouse();
        checks.due("count() of a new object", h.count(), 0);
        checks.due("kind(0) of a new object", Written.answer(() -> h.kind(0)), "IndexOutOfBoundsException");
        checks.due("the first handle", h.letter(), 0);
        checks.due("sign(x) of a new object", h.sign(0), 2);
        checks.due("all is what was assumed", h.assume(Written.made(h, "(.., ..)")), false);
        FormulaHouse busy = new FormulaHouse();
        busy.assume(Written.made(busy, "(1, 2)"));
        FormulaHouse next = new FormulaHouse();
        checks.due("count() of the next object", next.count(), 0);
        checks.due("assumed in the next object", next.sign(Written.made(next, "0 1")), 2);
        checks.due("still assumed in the one before", busy.sign(Written.made(busy, "0 1")), 1);
    }

    private void number() {
        document.says("Promise 2", "A NUMBER.");
        int[][] rows = {{0, 1}, {0, -60}, {60, 1}, {-60, 1}, {60, -1}, {1, 60}, {1, -60}, {59, 60}, {-59, 60}};
        String[] due = {"0", "0", "60", "-60", "-60", "1/60", "-1/60", "59/60", "-59/60"};
        FormulaHouse h = new FormulaHouse();
        for (int k = 0; k < rows.length; k++) {
            int[] row = rows[k];
            String made = Written.thing(h, () -> h.number(row[0], row[1]));
            checks.due("number(" + row[0] + ", " + row[1] + ")", made, due[k]);
        }
        for (int[] row : new int[][] {{61, 1}, {-61, 1}, {1, 61}, {61, -1}, {-1, -61}, {Integer.MIN_VALUE, -1}}) {
            String made = Written.thing(h, () -> h.number(row[0], row[1]));
            checks.due("number(" + row[0] + ", " + row[1] + ")", made, STATE);
        }
        for (int above : new int[] {0, 1, -1, 61, Integer.MIN_VALUE, Integer.MAX_VALUE}) {
            checks.due("number(" + above + ", 0)", Written.thing(h, () -> h.number(above, 0)), ARITHMETIC);
        }
    }

    private void letter() {
        document.says("Promise 3", "x.");
        FormulaHouse h = new FormulaHouse();
        for (int k = 0; k < 80; k++) {
            checks.due("letter() " + k, h.letter(), k);
        }
        checks.due("the first one", Written.read(h, 0), "0 1");
        checks.due("the last one", Written.read(h, 79), "0 1");
        checks.due("letter() once more", Written.thing(h, () -> h.letter()), STATE);
    }

    private void add() {
        document.says("Promise 4", "The sum.");
        pairs("add", (h, f, g) -> h.add(f, g), new String[][] {
            {"0", "0", "0"}, {"59", "1", "60"}, {"60", "1", STATE}, {"-59", "-1", "-60"}, {"-60", "-1", STATE},
            {"60", "-60", "0"}, {"1/4", "1/15", "19/60"}, {"1/31", "1/2", STATE}, {"1/60", "1/60", "1/30"},
            {"1/60", "-1/60", "0"}, {"59/60", "1/60", "1"}, {"0", "0 0 0 1", "0 0 0 1"},
            {"60", "0 0 0 60", "60 0 0 60"},
            {"1 2 3 4", "1 2 3 -4", "2 4 6"}, {"1 2 3 4", "1 2 -3 -4", "2 4"}, {"1 2 3 4", "1 -2 -3 -4", "2"},
            {"1 2 3 4", "-1 -2 -3 -4", "0"}, {"1 2 3 60", "60 -2 -3 -60", STATE}, {"none", "0", ARGUMENT},
            {"0", "(.., ..)", ARGUMENT}, {"[0, 0]", "[0, 0]", ARGUMENT},
        });
    }

    private void less() {
        document.says("Promise 5", "The first one less the second one.");
        pairs("less", (h, f, g) -> h.less(f, g), new String[][] {
            {"0", "0", "0"}, {"0", "60", "-60"}, {"0", "-60", "60"}, {"1", "1/60", "59/60"}, {"-60", "1", STATE},
            {"60", "-1", STATE}, {"-60", "-60", "0"}, {"1/2", "1/31", STATE}, {"1 2 3 4", "1 2 3 4", "0"},
            {"8 2 3 4", "1 2 3 4", "7"}, {"1 2 3 4", "8 2 3 4", "-7"}, {"1 2 3 4", "1 2 3 5", "0 0 0 -1"},
            {"0 0 0 -60", "0 0 0 1", STATE}, {"0 1", "0 0 0 1", "0 1 0 -1"}, {"none", "0", ARGUMENT},
            {"0", "none", ARGUMENT}, {"none", "none", ARGUMENT},
        });
    }

    private void times() {
        document.says("Promise 6", "The product.");
        pairs("times", (h, f, g) -> h.times(f, g), new String[][] {
            {"0", "0", "0"}, {"0", "0 0 0 1", "0"}, {"0 0 0 1", "0", "0"}, {"0 0 0 1", "1/60", "0 0 0 1/60"},
            {"0 1", "0 0 1", "0 0 0 1"}, {"0 0 1", "0 1", "0 0 0 1"}, {"0 0 1", "0 0 1", STATE},
            {"0 1", "0 0 0 1", STATE}, {"0 0 0 1", "0 1", STATE}, {"0 0 0 1", "0 0 1", STATE},
            {"0 0 0 1", "0 0 0 1", STATE}, {"10", "6", "60"}, {"-10", "6", "-60"}, {"-10", "-6", "60"},
            {"31", "2", STATE}, {"-31", "2", STATE}, {"1/30", "1/2", "1/60"}, {"1/31", "1/2", STATE},
            {"60/59", "59/60", "1"}, {"60", "60", STATE}, {"1/60", "1/60", STATE}, {"7 1", "-7 1", "-49 0 1"},
            {"8 1", "-8 1", STATE}, {"8 1", "-7 8", "-56 57 8"}, {"1 2", "3 -1 5", "3 5 3 10"},
            {"1/2 1/2", "1/2 1/2 1/2", "1/4 1/2 1/2 1/4"}, {"none", "0", ARGUMENT}, {"0", "none", ARGUMENT},
        });
    }

    private void over() {
        document.says("Promise 7", "f through a NUMBER g.");
        pairs("over", (h, f, g) -> h.over(f, g), new String[][] {
            {"60", "60", "1"}, {"60", "-1", "-60"}, {"1", "60", "1/60"}, {"1", "-60", "-1/60"}, {"1", "1/60", "60"},
            {"0", "60", "0"}, {"60/59", "60/59", "1"}, {"59/60", "60/59", STATE}, {"31", "1/2", STATE},
            {"-31", "1/2", STATE}, {"1/2", "31", STATE}, {"1/2", "30", "1/60"}, {"9 -6 0 3", "-3/2", "-6 4 0 -2"},
            {"0 0 0 31", "1/2", STATE}, {"0 0 0 1", "60", "0 0 0 1/60"}, {"0", "0", ARITHMETIC}, {"1", "0", ARITHMETIC},
            {"0 0 0 1", "0", ARITHMETIC}, {"60", "0 1", ARGUMENT}, {"0", "0 0 0 1", ARGUMENT}, {"none", "0", ARGUMENT},
            {"none", "1", ARGUMENT}, {"1", "[1, 1]", ARGUMENT}, {"0 1", "0 1", ARGUMENT},
        });
        FormulaHouse h = new FormulaHouse();
        int x = h.letter();
        int zero = h.less(x, x);
        checks.due("over(x; x - x)", Written.thing(h, () -> h.over(x, zero)), ARITHMETIC);
        int one = h.derive(x);
        checks.due("over(x; slope of x)", Written.thing(h, () -> h.over(x, one)), "0 1");
    }

    private void derive() {
        document.says("Promise 8", "The slope.");
        singles("derive", (h, f, unused) -> h.derive(f), new String[][] {
            {"0", "0"}, {"60", "0"}, {"-1/60", "0"}, {"0 60", "60"}, {"60 -60", "-60"}, {"0 0 30", "0 60"},
            {"0 0 31", STATE}, {"0 0 -30", "0 -60"}, {"0 0 -31", STATE}, {"0 0 0 20", "0 0 60"}, {"0 0 0 21", STATE},
            {"0 0 0 -20", "0 0 -60"}, {"0 0 0 -21", STATE}, {"0 0 0 1/60", "0 0 1/20"}, {"0 0 0 59/3", "0 0 59"},
            {"0 0 0 60/59", STATE}, {"0 0 59/2", "0 59"}, {"9 -6 5 3", "-6 10 9"}, {"none", ARGUMENT},
            {"(.., ..)", ARGUMENT},
        });
    }

    private void integral() {
        document.says("Promise 9", "What has f as its slope, and is 0 at 0.");
        singles("integral", (h, f, unused) -> h.integral(f), new String[][] {
            {"0", "0"}, {"60", "0 60"}, {"-1/60", "0 -1/60"}, {"0 60", "0 0 30"}, {"0 1/30", "0 0 1/60"},
            {"0 1/31", STATE}, {"0 -1/31", STATE}, {"0 59/60", STATE}, {"0 0 60", "0 0 0 20"},
            {"0 0 1/20", "0 0 0 1/60"}, {"0 0 1/21", STATE}, {"0 0 0 1", STATE}, {"1 1 1 -1/60", STATE},
            {"4 -6 5", "0 4 -3 5/3"}, {"none", ARGUMENT}, {"[0, 0]", ARGUMENT},
        });
        FormulaHouse h = new FormulaHouse();
        int f = Written.made(h, "7 -5/2 3");
        int whole = h.integral(f);
        checks.due("its slope", h.same(h.derive(whole), f), true);
        checks.due("at 0", Written.read(h, h.put(whole, h.number(0, 1))), "0");
    }

    private void put() {
        document.says("Promise 10", "f with g in place of x.");
        pairs("put", (h, f, g) -> h.put(f, g), new String[][] {
            {"0", "0", "0"}, {"0", "0 0 0 1", "0"}, {"5", "0 0 0 1", "5"}, {"5", "0", "5"}, {"0 0 0 1", "0", "0"},
            {"7 0 0 1", "0", "7"}, {"0 1", "0 0 0 1", "0 0 0 1"}, {"0 0 0 1", "0 1", "0 0 0 1"},
            {"0 0 0 1", "1 1", "1 3 3 1"}, {"0 0 1", "0 0 1", STATE}, {"0 0 1", "0 0 0 1", STATE},
            {"0 0 0 1", "0 0 1", STATE}, {"0 0 0 1", "0 0 0 1", STATE}, {"0 0 1", "7", "49"}, {"0 0 1", "8", STATE},
            {"0 0 1", "-8", STATE}, {"0 0 1", "1/7", "1/49"}, {"0 0 1", "1/8", STATE}, {"0 0 0 1", "3", "27"},
            {"0 0 0 1", "4", STATE}, {"0 0 0 1", "-4", STATE}, {"0 0 0 1", "-3", "-27"}, {"0 60", "1/60 1/60", "1 1"},
            {"0 0 -59 60", "59/60", "0"}, {"-27 27 -9 1", "3 3", "0 0 0 27"}, {"1 -1 2 1", "-1 2", "3 -4 -4 8"},
            {"-1 2", "1 -1 2 1", "1 -2 4 2"}, {"-1 1", "1", "0"}, {"1 0 1", "0 0 0 1", STATE},
            {"59 53 47 43", "60", STATE},
            {"59/60 53/57 47/59 43/58", "58/57 59/56", STATE}, {"none", "0 1", ARGUMENT}, {"0 1", "none", ARGUMENT},
        });
    }

    private void whereZeroOrBelow() {
        document.says("Promise 11", "The SET of all fractions at which f is 0 (op 0), below 0 (1), not above 0 (2).");
        String[][] rows = {
            {"0", "(.., ..)", "none", "(.., ..)"}, {"60", "none", "none", "none"},
            {"-60", "none", "(.., ..)", "(.., ..)"}, {"0 1", "[0, 0]", "(.., 0)", "(.., 0]"},
            {"0 -1", "[0, 0]", "(0, ..)", "[0, ..)"}, {"-60 1", "[60, 60]", "(.., 60)", "(.., 60]"},
            {"-60 -1", "[-60, -60]", "(-60, ..)", "[-60, ..)"}, {"-1 60", "[1/60, 1/60]", "(.., 1/60)", "(.., 1/60]"},
            {"-31 1/2", STATE, STATE, STATE}, {"-1/2 31", STATE, STATE, STATE}, {"0 0 1", "[0, 0]", "none", "[0, 0]"},
            {"0 0 -1", "[0, 0]", "(.., 0) (0, ..)", "(.., ..)"}, {"1 0 1", "none", "none", "none"},
            {"-1 0 -1", "none", "(.., ..)", "(.., ..)"},
            {"-4 0 1", "[-2, -2] [2, 2]", "(-2, 2)", "[-2, 2]"},
            {"4 0 -1", "[-2, -2] [2, 2]", "(.., -2) (2, ..)", "(.., -2] [2, ..)"},
            {"-60 0 1/60", "[-60, -60] [60, 60]", "(-60, 60)", "[-60, 60]"},
            {"-1/60 0 60", "[-1/60, -1/60] [1/60, 1/60]", "(-1/60, 1/60)", "[-1/60, 1/60]"},
            {"0 -31 1/2", STATE, STATE, STATE}, {"-2 0 1", STATE, STATE, STATE}, {"0 0 0 1", STATE, STATE, STATE},
            {"none", ARGUMENT, ARGUMENT, ARGUMENT}, {"(.., ..)", ARGUMENT, ARGUMENT, ARGUMENT},
        };
        for (String[] row : rows) {
            for (int op = 0; op <= 2; op++) {
                int asked = op;
                singles("where " + op, (h, f, unused) -> h.where(f, asked), new String[][] {{row[0], row[op + 1]}});
            }
        }
    }

    private void whereAnotherOp() {
        document.says("Promise 11", "IllegalArgumentException: also another op.");
        for (int op : new int[] {-1, 3, 4, 256, 1 << 16, Integer.MIN_VALUE, Integer.MAX_VALUE}) {
            singles("where " + op, (h, f, unused) -> h.where(f, op), new String[][] {
                {"0", ARGUMENT}, {"0 1", ARGUMENT}, {"0 0 0 1", ARGUMENT}, {"-2 0 1", ARGUMENT}, {"-31 1/2", ARGUMENT},
            });
        }
    }

    private void both() {
        document.says("Promise 12", "What is in two SETS.");
        pairs("both", (h, s, t) -> h.both(s, t), new String[][] {
            {"none", "none", "none"}, {"none", "(.., ..)", "none"}, {"(.., ..)", "none", "none"},
            {"(.., ..)", "(.., ..)", "(.., ..)"}, {"(.., ..)", "[1, 1]", "[1, 1]"}, {"[1, 1]", "(.., ..)", "[1, 1]"},
            {"(.., 0]", "[0, ..)", "[0, 0]"}, {"(.., 0)", "[0, ..)", "none"}, {"(.., 0]", "(0, ..)", "none"},
            {"(0, 1)", "(1, 2)", "none"}, {"[0, 1]", "[1, 2]", "[1, 1]"}, {"[0, 1]", "(0, 1)", "(0, 1)"},
            {"[0, 1)", "(0, 1]", "(0, 1)"}, {"(0, 2)", "(1, 3)", "(1, 2)"}, {"(0, 3)", "[1, 2]", "[1, 2]"},
            {"[1, 1] [2, 2]", "[2, 2] [3, 3]", "[2, 2]"}, {"[1, 1]", "[2, 2]", "none"},
            {"(.., 1) (1, ..)", "[0, 2]", "[0, 1) (1, 2]"}, {"(.., 1) (1, ..)", "[1, 1]", "none"},
            {"(.., -60] [60, ..)", "[-60, 60]", "[-60, -60] [60, 60]"}, {"(1/60, 1/59)", "(.., 1/59)", "(1/60, 1/59)"},
            {"0", "none", ARGUMENT}, {"none", "0", ARGUMENT}, {"0 1", "(.., ..)", ARGUMENT}, {"0", "0 1", ARGUMENT},
        });
    }

    private void either() {
        document.says("Promise 13", "What is in at least one of two SETS.");
        pairs("either", (h, s, t) -> h.either(s, t), new String[][] {
            {"none", "none", "none"}, {"none", "(.., ..)", "(.., ..)"}, {"(.., ..)", "none", "(.., ..)"},
            {"[1, 1]", "none", "[1, 1]"}, {"[1, 1]", "(.., ..)", "(.., ..)"}, {"(.., 0]", "[0, ..)", "(.., ..)"},
            {"(.., 0)", "[0, ..)", "(.., ..)"}, {"(.., 0)", "(0, ..)", "(.., 0) (0, ..)"},
            {"(0, 1)", "[1, 1]", "(0, 1]"},
            {"(0, 1)", "[0, 0]", "[0, 1)"}, {"(0, 1)", "(1, 2)", "(0, 1) (1, 2)"}, {"(0, 1]", "(1, 2)", "(0, 2)"},
            {"(0, 2)", "(1, 3)", "(0, 3)"}, {"(0, 3)", "[1, 2]", "(0, 3)"}, {"[0, 1)", "(0, 1]", "[0, 1]"},
            {"[2, 2]", "[1, 1]", "[1, 1] [2, 2]"}, {"(.., 1) (1, ..)", "[1, 1]", "(.., ..)"},
            {"(.., -60)", "(60, ..)", "(.., -60) (60, ..)"}, {"(0, 1) (2, 3)", "[1, 2]", "(0, 3)"},
            {"0", "none", ARGUMENT}, {"none", "0", ARGUMENT}, {"0 1", "(.., ..)", ARGUMENT}, {"0", "0 1", ARGUMENT},
        });
    }

    private void other() {
        document.says("Promise 14", "What isn't in a SET.");
        singles("other", (h, s, unused) -> h.other(s), new String[][] {
            {"none", "(.., ..)"}, {"(.., ..)", "none"}, {"[0, 0]", "(.., 0) (0, ..)"}, {"(.., 0) (0, ..)", "[0, 0]"},
            {"(.., 0)", "[0, ..)"}, {"(.., 0]", "(0, ..)"}, {"[0, ..)", "(.., 0)"}, {"(0, ..)", "(.., 0]"},
            {"(0, 1)", "(.., 0] [1, ..)"}, {"[0, 1]", "(.., 0) (1, ..)"}, {"[0, 1)", "(.., 0) [1, ..)"},
            {"[1, 1] [2, 2]", "(.., 1) (1, 2) (2, ..)"}, {"(0, 1) (1, 2)", "(.., 0] [1, 1] [2, ..)"},
            {"[-60, 60]", "(.., -60) (60, ..)"}, {"0", ARGUMENT}, {"0 1", ARGUMENT}, {"0 0 0 1", ARGUMENT},
        });
    }

    /** One handle in both places. */
    private void withItself() {
        FormulaHouse h = new FormulaHouse();
        int line = Written.made(h, "-1/2 2");
        int two = Written.made(h, "2");
        int set = Written.made(h, "(.., 0) [1, 2)");
        checks.due("add(f, f)", Written.thing(h, () -> h.add(line, line)), "-1 4");
        checks.due("less(f, f)", Written.thing(h, () -> h.less(line, line)), "0");
        checks.due("times(f, f)", Written.thing(h, () -> h.times(line, line)), "1/4 -2 4");
        checks.due("put(f, f)", Written.thing(h, () -> h.put(line, line)), "-3/2 4");
        checks.due("over(2, 2)", Written.thing(h, () -> h.over(two, two)), "1");
        checks.due("both(s, s)", Written.thing(h, () -> h.both(set, set)), "(.., 0) [1, 2)");
        checks.due("either(s, s)", Written.thing(h, () -> h.either(set, set)), "(.., 0) [1, 2)");
    }
}
