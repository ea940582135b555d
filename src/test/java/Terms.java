/** The sentences of "Terms" on things: handles, kinds, fractions, what is too great, pieces, what can be told. */
final class Terms {
    private static final String STATE = "IllegalStateException";

    private final Checks checks;
    private final Document document;

    interface Maker {
        int made(FormulaHouse house, int f, int g);
    }

    Terms(Checks checks, Document document) {
        this.checks = checks;
        this.document = document;
    }

    void run() {
        handlesInTheOrderOfMaking();
        kinds();
        lowestTerms();
        numbersByDegree();
        tooGreatADegree();
        tooGreatAPart();
        tooGreatAnEnd();
        formsOfPieces();
        asFewPiecesAsCanBe();
        cantBeTold();
        canBeTold();
        assumedAtFirst();
    }

    private void says(String words) {
        document.says("Terms", words);
    }

    private void made(String want, String name, Maker maker, String f, String g) {
        FormulaHouse h = new FormulaHouse();
        int first = Written.made(h, f);
        int second = Written.made(h, g);
        String call = name + " of " + f + " and " + g;
        checks.due(call, Written.thing(h, () -> maker.made(h, first, second)), want);
    }

    private void handlesInTheOrderOfMaking() {
        says("A THING has a handle, 0 .. 79, in the order in which they were made,");
        FormulaHouse h = new FormulaHouse();
        for (int k = 0; k < 80; k++) {
            int handle = k % 3 == 0 ? h.letter() : k % 3 == 1 ? h.where(0, 1) : h.number(k % 50, 1);
            checks.due("handle of thing " + k, handle, k);
            checks.due("a call that makes none", h.sign(0), 2);
        }
        checks.due("thing 0", Written.read(h, 0), "0 1");
        checks.due("thing 1", Written.read(h, 1), "(.., 0)");
        checks.due("thing 2", Written.read(h, 2), "2");
        checks.due("thing 77", Written.read(h, 77), "27");
        checks.due("thing 78", Written.read(h, 78), "0 1");
        checks.due("thing 79", Written.read(h, 79), "(.., 0)");
    }

    private void kinds() {
        says("and a KIND: 0 a NUMBER, a fraction; 1 a POLYNOMIAL in x with fractions as its numbers, of a degree from 1"
                + " to 3; 2 a SET of fractions, that is all those in some PIECES of the line.");
        Object[][] rows = {
            {"0", 0}, {"60", 0}, {"-1/60", 0}, {"0 1", 1}, {"1/2 -1/60", 1}, {"0 0 1", 1}, {"0 0 0 -1", 1},
            {"60 60 60 1/60", 1}, {"none", 2}, {"(.., ..)", 2}, {"[0, 0]", 2}, {"(.., 0) (0, 1] [2, 2]", 2},
        };
        for (Object[] row : rows) {
            FormulaHouse h = new FormulaHouse();
            String text = (String) row[0];
            int handle = Written.made(h, text);
            checks.due("kind of " + text, h.kind(handle), row[1]);
            checks.due(text + " as it is told", Written.read(h, handle), text);
        }
    }

    private void lowestTerms() {
        says("FRACTIONS are told in lowest terms, above (0) and below (1), below above 0.");
        int least = Integer.MIN_VALUE;
        int[][] rows = {
            {6, 4, 3, 2}, {-6, 4, -3, 2}, {6, -4, -3, 2}, {-6, -4, 3, 2}, {0, 7, 0, 1}, {0, -7, 0, 1}, {0, least, 0, 1},
            {least, least, 1, 1}, {least, 1 << 30, -2, 1}, {1 << 30, least, -1, 2}, {least, 1 << 26, -32, 1},
            {1 << 26, least, -1, 32}, {Integer.MAX_VALUE, -Integer.MAX_VALUE, -1, 1},
            {least + 1, Integer.MAX_VALUE, -1, 1},
        };
        for (int[] row : rows) {
            FormulaHouse h = new FormulaHouse();
            int number = h.number(row[0], row[1]);
            String name = "number(" + row[0] + ", " + row[1] + ")";
            checks.due("above of " + name, h.at(number, 0, 0), row[2]);
            checks.due("below of " + name, h.at(number, 0, 1), row[3]);
        }
        made("1/2 1/2 3/4", "over", (h, f, g) -> h.over(f, g), "2 2 3", "4");
        made("-1/2 -1/2 -3/4", "over", (h, f, g) -> h.over(f, g), "2 2 3", "-4");
        made("[-3/2, -3/2]", "where 0", (h, f, g) -> h.where(f, 0), "6 4", "0");
        made("[3/2, 3/2]", "where 0", (h, f, g) -> h.where(f, 0), "6 -4", "0");
        made("[-2/3, -2/3] [1/2, 1/2]", "where 0", (h, f, g) -> h.where(f, 0), "-4 2 12", "0");
        made("[-2/3, -2/3] [1/2, 1/2]", "where 0", (h, f, g) -> h.where(f, 0), "4 -2 -12", "0");
    }

    private void numbersByDegree() {
        says("What is made is a NUMBER if its degree is 0 or it is 0.");
        made("0", "less", (h, f, g) -> h.less(f, g), "1 2 3 4", "1 2 3 4");
        made("7", "less", (h, f, g) -> h.less(f, g), "8 2 3 4", "1 2 3 4");
        made("0 1", "less", (h, f, g) -> h.less(f, g), "1 3 3 4", "1 2 3 4");
        made("0", "add", (h, f, g) -> h.add(f, g), "0 1", "0 -1");
        made("1/60", "add", (h, f, g) -> h.add(f, g), "1/60 1", "0 -1");
        made("0", "times", (h, f, g) -> h.times(f, g), "0 0 0 1", "0");
        made("0", "over", (h, f, g) -> h.over(f, g), "0", "-60");
        made("1", "derive", (h, f, g) -> h.derive(f), "0 1", "0");
        made("0", "derive", (h, f, g) -> h.derive(f), "60", "0");
        made("0", "integral", (h, f, g) -> h.integral(f), "0", "0");
        made("0", "put", (h, f, g) -> h.put(f, g), "-1 1", "1");
        made("2", "put", (h, f, g) -> h.put(f, g), "1 1", "1");
        made("5", "put", (h, f, g) -> h.put(f, g), "5", "0 0 0 1");
    }

    private void tooGreatADegree() {
        says("It is TOO GREAT if its degree is above 3,");
        made("0 0 0 1", "times", (h, f, g) -> h.times(f, g), "0 1", "0 0 1");
        made("0 0 0 5", "times", (h, f, g) -> h.times(f, g), "0 0 0 1", "5");
        made(STATE, "times", (h, f, g) -> h.times(f, g), "0 1", "0 0 0 1");
        made(STATE, "times", (h, f, g) -> h.times(f, g), "0 0 1", "0 0 1");
        made(STATE, "times", (h, f, g) -> h.times(f, g), "0 0 1", "0 0 0 1");
        made(STATE, "times", (h, f, g) -> h.times(f, g), "0 0 0 1", "0 0 0 1");
        made("0 0 0 1/3", "integral", (h, f, g) -> h.integral(f), "0 0 1", "0");
        made(STATE, "integral", (h, f, g) -> h.integral(f), "0 0 0 1", "0");
        made("0 0 0 1", "put", (h, f, g) -> h.put(f, g), "0 0 0 1", "0 1");
        made("0 0 0 1", "put", (h, f, g) -> h.put(f, g), "0 1", "0 0 0 1");
        made(STATE, "put", (h, f, g) -> h.put(f, g), "0 0 1", "0 0 1");
        made(STATE, "put", (h, f, g) -> h.put(f, g), "0 0 0 1", "0 0 1");
        made(STATE, "put", (h, f, g) -> h.put(f, g), "0 0 1", "0 0 0 1");
        made(STATE, "put", (h, f, g) -> h.put(f, g), "0 0 0 1", "0 0 0 1");
    }

    /** At each power, above 60, below -60, and below a fraction's line. */
    private void tooGreatAPart() {
        says("or some FRACTION in it (an END of a SET, too) has a part, in lowest terms, above 60 or below -60.");
        String[] lead = {"", "0 ", "0 0 ", "0 0 0 "};
        for (String zeros : lead) {
            made(zeros + "60", "add", (h, f, g) -> h.add(f, g), zeros + "59", zeros + "1");
            made(STATE, "add", (h, f, g) -> h.add(f, g), zeros + "60", zeros + "1");
            made(zeros + "-60", "add", (h, f, g) -> h.add(f, g), zeros + "-59", zeros + "-1");
            made(STATE, "add", (h, f, g) -> h.add(f, g), zeros + "-60", zeros + "-1");
            made(STATE, "less", (h, f, g) -> h.less(f, g), zeros + "-60", zeros + "1");
            made(STATE, "times", (h, f, g) -> h.times(f, g), zeros + "31", "2");
            made(zeros + "1/60", "over", (h, f, g) -> h.over(f, g), zeros + "1/30", "2");
            made(STATE, "over", (h, f, g) -> h.over(f, g), zeros + "1/31", "2");
            made(STATE, "over", (h, f, g) -> h.over(f, g), zeros + "1/31", "-2");
            made(STATE, "put", (h, f, g) -> h.put(f, g), "0 2", zeros + "31");
            made(zeros + "1", "times", (h, f, g) -> h.times(f, g), zeros + "60/59", "59/60");
        }
        for (int[] row : new int[][] {{120, 2}, {-120, 2}, {2, 120}, {3600, 3600}, {3540, 3600}, {60, 1}, {1, -60}}) {
            FormulaHouse h = new FormulaHouse();
            checks.due("number(" + row[0] + ", " + row[1] + ")", Written.answer(() -> h.number(row[0], row[1])), 0);
        }
        for (int[] row : new int[][] {{61, 1}, {-61, 1}, {1, 61}, {1, -61}, {122, 2}, {2, -122}, {61, 60}, {60, 61},
            {Integer.MIN_VALUE, -1}, {-1, Integer.MIN_VALUE}, {Integer.MIN_VALUE, Integer.MAX_VALUE}, {1 << 8, 1},
            {1 << 16, 1}, {Integer.MIN_VALUE, 1 << 25}, {1 << 25, Integer.MIN_VALUE}, {Integer.MAX_VALUE, 1}}) {
            FormulaHouse h = new FormulaHouse();
            checks.due("number(" + row[0] + ", " + row[1] + ")", Written.answer(() -> h.number(row[0], row[1])), STATE);
        }
    }

    private void tooGreatAnEnd() {
        String[] fits = {"-60 1", "60 1", "-1 60", "1 60", "-30 1/2", "1/2 -30", "-60 0 1/60", "-1/60 0 60", "0 -60 1"};
        String[] ends = {"60", "-60", "1/60", "-1/60", "60", "1/60", "60", "1/60", "60"};
        for (int k = 0; k < fits.length; k++) {
            FormulaHouse h = new FormulaHouse();
            int set = h.where(Written.made(h, fits[k]), 0);
            checks.due("zeros of " + fits[k], h.holds(set, Written.number(h, ends[k])), true);
        }
        for (String f : new String[] {"-31 1/2", "31 1/2", "31 -1/2", "-1/2 31", "1/2 31", "0 -31 1/2", "0 31 1/2",
            "0 -1/2 31", "0 1/2 31", "57/56 -49/60 -43/56", "-60 1/60", "1/60 60"}) {
            made(STATE, "where 0", (h, g, unused) -> h.where(g, 0), f, "0");
            made(STATE, "where below", (h, g, unused) -> h.where(g, 1), f, "0");
            made(STATE, "where not above", (h, g, unused) -> h.where(g, 2), f, "0");
        }
    }

    private void formsOfPieces() {
        says("A SET is a row of PIECES, from left to right: all fractions between two ENDS, each of which belongs to it"
                + " or doesn't, or without an END on one side or both; or one fraction, both its ENDS;");
        for (String text : new String[] {"(0, 1)", "[0, 1)", "(0, 1]", "[0, 1]", "(.., 1)", "(.., 1]", "(0, ..)",
            "[0, ..)", "(.., ..)", "[1/2, 1/2]", "none", "(.., -60] [-1/60, -1/60] (0, 1/60) [60, ..)"}) {
            FormulaHouse h = new FormulaHouse();
            checks.due(text, Written.read(h, Written.made(h, text)), text);
        }
        made("(.., -1) [0, 0] (1, 2]", "either", (h, f, g) -> h.either(f, g), "(1, 2]", "(.., -1) [0, 0]");
        made("[-2, -2] [0, 0] [2, 2]", "either", (h, f, g) -> h.either(f, g), "[0, 0]", "[-2, -2] [2, 2]");
        made("(-60, -59) (59, 60)", "either", (h, f, g) -> h.either(f, g), "(59, 60)", "(-60, -59)");
        made("(1/60, 1/59) (1/2, 59/60)", "either", (h, f, g) -> h.either(f, g), "(1/2, 59/60)", "(1/60, 1/59)");
    }

    private void asFewPiecesAsCanBe() {
        says("as few PIECES as can be (so what belongs to none lies between two).");
        made("[0, 2]", "either", (h, f, g) -> h.either(f, g), "[0, 1)", "[1, 2]");
        made("[0, 2]", "either", (h, f, g) -> h.either(f, g), "[0, 1]", "(1, 2]");
        made("[0, 2]", "either", (h, f, g) -> h.either(f, g), "[0, 1]", "[1, 2]");
        made("[0, 1) (1, 2]", "either", (h, f, g) -> h.either(f, g), "[0, 1)", "(1, 2]");
        made("(0, 2)", "either", (h, f, g) -> h.either(f, g), "(0, 1) (1, 2)", "[1, 1]");
        made("(.., ..)", "either", (h, f, g) -> h.either(f, g), "(.., 0]", "(0, ..)");
        made("(.., ..)", "either", (h, f, g) -> h.either(f, g), "(.., 1)", "(0, ..)");
        made("(.., 0) (0, ..)", "either", (h, f, g) -> h.either(f, g), "(.., 0)", "(0, ..)");
        made("(0, 3)", "either", (h, f, g) -> h.either(f, g), "(0, 3)", "[1, 2]");
        made("(0, 3)", "either", (h, f, g) -> h.either(f, g), "(0, 1] [2, 3)", "(1, 2)");
        made("[1, 1]", "both", (h, f, g) -> h.both(f, g), "(0, 1] [2, 2]", "[1, 2)");
        made("none", "both", (h, f, g) -> h.both(f, g), "(0, 1) [2, 2]", "[1, 2)");
        made("(0, 1)", "both", (h, f, g) -> h.both(f, g), "(0, 1]", "(.., 1)");
        made("(.., 1/2) (1/2, ..)", "other", (h, f, g) -> h.other(f), "[1/2, 1/2]", "0");
        made("[1/2, 1/2]", "other", (h, f, g) -> h.other(f), "(.., 1/2) (1/2, ..)", "0");
    }

    private void cantBeTold() {
        says("The fractions at which a THING of KIND 0 or 1 is 0 (or below 0) can't be TOLD if its degree is 3, or it has"
                + " an answer that is no fraction");
        for (String f : new String[] {"0 0 0 1", "-1 0 0 1", "0 0 0 -1/60", "-1 3 -3 1", "0 -1 0 1", "-2 0 1", "2 0 -1",
            "-1 -1 1", "-1/2 0 1", "-60 0 1", "-1 0 60", "1 2 59/60", "-2/53 60 15/59", "59/60 -17/25 -34/59",
            "1 3 1", "-59 0 60"}) {
            for (int op = 0; op <= 2; op++) {
                int asked = op;
                made(STATE, "where " + op, (h, g, unused) -> h.where(g, asked), f, "0");
            }
            FormulaHouse h = new FormulaHouse();
            int g = Written.made(h, f);
            checks.due("sign of " + f, Written.answer(() -> h.sign(g)), STATE);
        }
    }

    private void canBeTold() {
        says("(a real one: with none of degree 2 it can be TOLD).");
        String[][] rows = {
            {"1 0 1", "none", "none", "none"}, {"-1 0 -1", "none", "(.., ..)", "(.., ..)"},
            {"1 1 1", "none", "none", "none"}, {"1/60 0 60", "none", "none", "none"},
            {"37/57 17/32 5/46", "none", "none", "none"}, {"-7/5 31/15 -45/59", "none", "(.., ..)", "(.., ..)"},
            {"1 2 1", "[-1, -1]", "none", "[-1, -1]"}, {"0 0 -1", "[0, 0]", "(.., 0) (0, ..)", "(.., ..)"},
            {"-1/4 0 1", "[-1/2, -1/2] [1/2, 1/2]", "(-1/2, 1/2)", "[-1/2, 1/2]"},
            {"57/44 2/59 -44/59", "[-57/44, -57/44] [59/44, 59/44]", "(.., -57/44) (59/44, ..)",
                "(.., -57/44] [59/44, ..)"},
            {"-52/53 -25/57 37/53", "[-52/57, -52/57] [57/37, 57/37]", "(-52/57, 57/37)", "[-52/57, 57/37]"},
            {"2 -3 1", "[1, 1] [2, 2]", "(1, 2)", "[1, 2]"},
            {"-30/59 -22/59 40/49", "[-35/59, -35/59] [21/20, 21/20]", "(-35/59, 21/20)", "[-35/59, 21/20]"},
            {"0", "(.., ..)", "none", "(.., ..)"}, {"1/60", "none", "none", "none"},
            {"-1/60", "none", "(.., ..)", "(.., ..)"},
        };
        for (String[] row : rows) {
            for (int op = 0; op <= 2; op++) {
                int asked = op;
                made(row[op + 1], "where " + op, (h, g, unused) -> h.where(g, asked), row[0], "0");
            }
        }
        FormulaHouse h = new FormulaHouse();
        int great = Written.made(h, "57/56 -49/60 -43/56");
        checks.due("sign with zeros of great parts", h.sign(great), 2);
    }

    private void assumedAtFirst() {
        says("ASSUMED is a SET, at first all fractions: x is one of these.");
        FormulaHouse h = new FormulaHouse();
        int x = h.letter();
        checks.due("sign of x at first", h.sign(x), 2);
        checks.due("assume all at first", h.assume(Written.made(h, "(.., ..)")), false);
        checks.due("assume 1/2", h.assume(Written.made(h, "[1/2, 1/2]")), true);
        checks.due("sign of x at 1/2", h.sign(x), 1);
        checks.due("sign of x - 1/2 at 1/2", h.sign(Written.made(h, "-1/2 1")), 0);
        FormulaHouse second = new FormulaHouse();
        checks.due("sign of x in a second house", second.sign(second.letter()), 2);
    }
}
