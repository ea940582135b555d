/** Formulas with handles: numbers, polynomials in x, sets of fractions, and what is assumed of x. */
public final class FormulaHouse {
    private static final int MOST_THINGS = 80;
    private static final int MOST_DEGREE = 3;
    private static final long MOST_PART = 60;

    private static final int KIND_NUMBER = 0;
    private static final int KIND_POLYNOMIAL = 1;
    private static final int KIND_SET = 2;

    private static final int OP_ZERO = 0;
    private static final int OP_BELOW = 1;
    private static final int OP_NOT_ABOVE = 2;

    private static final int LEFT = 0;
    private static final int RIGHT = 1;

    private static final int NO_END = 0;
    private static final int END_OUTSIDE = 1;
    private static final int END_INSIDE = 2;

    private static final int SIGN_MIXED = 2;

    private final Thing[] things;
    private int made;
    private LineSet assumed;

    public FormulaHouse() {
        things = new Thing[MOST_THINGS];
        made = 0;
        assumed = LineSet.wholeOrNone(true);
    }

    public int number(int above, int below) throws ArithmeticException, IllegalStateException {
        if (below == 0) {
            throw new ArithmeticException("a number through 0");
        }
        return keep(Formula.constant(Fraction.of(above, below)));
    }

    public int letter() throws IllegalStateException {
        return keep(Formula.constant(new Fraction(1, 1)).antiSlope());
    }

    public int add(int f, int g) throws IndexOutOfBoundsException, IllegalArgumentException, IllegalStateException {
        Thing first = found(f);
        Thing second = found(g);
        return keep(asFormula(first).plus(asFormula(second)));
    }

    public int less(int f, int g) throws IndexOutOfBoundsException, IllegalArgumentException, IllegalStateException {
        Thing first = found(f);
        Thing second = found(g);
        return keep(asFormula(first).plus(asFormula(second).scaled(new Fraction(-1, 1))));
    }

    public int times(int f, int g) throws IndexOutOfBoundsException, IllegalArgumentException, IllegalStateException {
        Thing first = found(f);
        Thing second = found(g);
        Formula left = asFormula(first);
        Formula right = asFormula(second);
        refuseDegree(left.degree + right.degree);
        return keep(left.multiplied(right));
    }

    public int over(int f, int g)
            throws IndexOutOfBoundsException, IllegalArgumentException, ArithmeticException, IllegalStateException {
        Thing first = found(f);
        Thing second = found(g);
        Formula divided = asFormula(first);
        Fraction divisor = asNumber(second);
        if (divisor.above == 0) {
            throw new ArithmeticException("divided by 0");
        }
        return keep(divided.scaled(Fraction.of(divisor.below, divisor.above)));
    }

    public int derive(int f) throws IndexOutOfBoundsException, IllegalArgumentException, IllegalStateException {
        return keep(asFormula(found(f)).slope());
    }

    public int integral(int f) throws IndexOutOfBoundsException, IllegalArgumentException, IllegalStateException {
        Formula formula = asFormula(found(f));
        refuseDegree(formula.degree + 1);
        return keep(formula.antiSlope());
    }

    public int put(int f, int g) throws IndexOutOfBoundsException, IllegalArgumentException, IllegalStateException {
        Thing first = found(f);
        Thing second = found(g);
        Formula outer = asFormula(first);
        Formula inner = asFormula(second);
        refuseDegree(outer.degree * inner.degree);
        return keep(outer.withInside(inner));
    }

    public int where(int f, int op) throws IndexOutOfBoundsException, IllegalArgumentException, IllegalStateException {
        Formula formula = asFormula(found(f));
        if (op != OP_ZERO && op != OP_BELOW && op != OP_NOT_ABOVE) {
            throw new IllegalArgumentException("no such op");
        }
        return keep(Signs.told(formula).chosen(op));
    }

    public int both(int s, int t) throws IndexOutOfBoundsException, IllegalArgumentException, IllegalStateException {
        Thing first = found(s);
        Thing second = found(t);
        return keep(asSet(first).met(asSet(second)));
    }

    public int either(int s, int t) throws IndexOutOfBoundsException, IllegalArgumentException, IllegalStateException {
        Thing first = found(s);
        Thing second = found(t);
        return keep(asSet(first).joined(asSet(second)));
    }

    public int other(int s) throws IndexOutOfBoundsException, IllegalArgumentException, IllegalStateException {
        return keep(asSet(found(s)).rest());
    }

    public int kind(int f) throws IndexOutOfBoundsException {
        return found(f).whichKind();
    }

    public int degree(int f) throws IndexOutOfBoundsException, IllegalArgumentException {
        return asFormula(found(f)).degree;
    }

    public int at(int f, int power, int part) throws IndexOutOfBoundsException, IllegalArgumentException {
        Formula formula = asFormula(found(f));
        if (part != 0 && part != 1) {
            throw new IllegalArgumentException("no such part");
        }
        Fraction fraction = formula.fraction(power);
        return (int) (part == 0 ? fraction.above : fraction.below);
    }

    public int pieces(int s) throws IndexOutOfBoundsException, IllegalArgumentException {
        return asSet(found(s)).pieceCount();
    }

    public int end(int s, int k, int side, int part) throws IndexOutOfBoundsException, IllegalArgumentException {
        LineSet set = asSet(found(s));
        int first = set.firstCell(k);
        if (first < 0) {
            throw new IndexOutOfBoundsException("no such piece");
        }
        if (side != LEFT && side != RIGHT || part < 0 || part > 2) {
            throw new IllegalArgumentException("no such side or part");
        }
        int cell = side == LEFT ? first : set.lastCell(first);
        if (part == 0) {
            return set.endForm(cell, side);
        }
        Fraction end = set.endFraction(cell, side);
        return (int) (part == 1 ? end.above : end.below);
    }

    public boolean holds(int s, int v) throws IndexOutOfBoundsException, IllegalArgumentException {
        Thing first = found(s);
        Thing second = found(v);
        return asSet(first).contains(asNumber(second));
    }

    public boolean assume(int s) throws IndexOutOfBoundsException, IllegalArgumentException {
        LineSet set = asSet(found(s));
        if (set.isEmpty()) {
            throw new IllegalArgumentException("nothing would be assumed");
        }
        boolean changed = !set.isSameAs(assumed);
        assumed = set;
        return changed;
    }

    public int sign(int f) throws IndexOutOfBoundsException, IllegalArgumentException, IllegalStateException {
        Signs signs = Signs.told(asFormula(found(f)));
        boolean zero = !assumed.met(signs.chosen(OP_ZERO)).isEmpty();
        boolean below = !assumed.met(signs.chosen(OP_BELOW)).isEmpty();
        boolean above = !assumed.met(signs.chosen(OP_NOT_ABOVE).rest()).isEmpty();
        if (zero) {
            return below || above ? SIGN_MIXED : 0;
        }
        if (below) {
            return above ? SIGN_MIXED : -1;
        }
        return 1;
    }

    public boolean same(int f, int g) throws IndexOutOfBoundsException {
        Thing first = found(f);
        Thing second = found(g);
        return first.isSameAs(second);
    }

    public int count() {
        return made;
    }

    private Thing found(int handle) {
        Thing thing = handle < 0 || handle >= made || handle >= things.length ? null : things[handle];
        if (thing == null) {
            throw new IndexOutOfBoundsException("no such thing");
        }
        return thing;
    }

    private static Formula asFormula(Thing thing) {
        if (thing instanceof Formula formula) {
            return formula;
        }
        throw new IllegalArgumentException("not a number or polynomial");
    }

    private static Fraction asNumber(Thing thing) {
        if (thing instanceof Formula formula && formula.degree <= 0) {
            return formula.fraction(0);
        }
        throw new IllegalArgumentException("not a number");
    }

    private static LineSet asSet(Thing thing) {
        if (thing instanceof LineSet set) {
            return set;
        }
        throw new IllegalArgumentException("not a set");
    }

    private static void refuseDegree(int degree) {
        if (degree > MOST_DEGREE) {
            throw new IllegalStateException("too great a degree");
        }
    }

    private int keep(Thing thing) {
        if (made >= things.length) {
            throw new IllegalStateException("no room for one more");
        }
        if (thing.isTooGreat()) {
            throw new IllegalStateException("too great a part");
        }
        int handle = made;
        things[handle] = thing;
        made = handle + 1;
        return handle;
    }

    /** What a handle stands for. None of them ever changes, so they may share their parts. */
    private abstract static class Thing {
        abstract int whichKind();

        abstract boolean isTooGreat();

        abstract boolean isSameAs(Thing thing);
    }

    /** A fraction in lowest terms. Its parts are long, for on the way to an answer they may pass MOST_PART. */
    private static final class Fraction {
        /** Euclid's steps for any two longs are fewer. */
        private static final int MOST_STEPS = 100;

        final long above;
        final long below;

        /** For parts that are in lowest terms already; all others go through of. */
        Fraction(long above, long below) {
            this.above = above;
            this.below = below;
        }

        static Fraction of(long above, long below) {
            long shared = greatestShared(above, below);
            return below < 0
                    ? new Fraction(-above / shared, -below / shared)
                    : new Fraction(above / shared, below / shared);
        }

        /** At least 1, so that it can be divided by without a look. */
        private static long greatestShared(long first, long second) {
            long a = Math.abs(first);
            long b = Math.abs(second);
            for (int step = 0; step < MOST_STEPS && b != 0; step++) {
                long left = a % b;
                a = b;
                b = left;
            }
            return Math.max(a, 1);
        }

        /** Over the least shared below: a product of both would outgrow a long in withInside. */
        Fraction plus(Fraction added) {
            long shared = greatestShared(below, added.below);
            long widened = added.below / shared;
            return of(above * widened + added.above * (below / shared), below * widened);
        }

        Fraction multiplied(Fraction factor) {
            return of(above * factor.above, below * factor.below);
        }

        /** -1, 0 or 1 as this lies left of, on or right of a place. */
        int against(Fraction place) {
            return Long.compare(above * place.below, place.above * below);
        }

        boolean isTooGreat() {
            return above > MOST_PART || above < -MOST_PART || below > MOST_PART;
        }
    }

    /** A number or a polynomial: a fraction for each power of x from 0 to MOST_DEGREE. */
    private static final class Formula extends Thing {
        private final Fraction[] fractions;
        /** -1 if all fractions are 0. */
        final int degree;

        /** The row is the formula's own from here on, and is never changed. */
        Formula(Fraction[] row) {
            fractions = row;
            degree = lastPower(row);
        }

        static Formula constant(Fraction fraction) {
            Fraction[] row = zeros();
            row[0] = fraction;
            return new Formula(row);
        }

        private static Fraction[] zeros() {
            Fraction[] row = new Fraction[MOST_DEGREE + 1];
            Fraction zero = new Fraction(0, 1);
            for (int power = 0; power < row.length; power++) {
                row[power] = zero;
            }
            return row;
        }

        private static int lastPower(Fraction[] row) {
            for (int power = row.length - 1; power >= 0; power--) {
                if (row[power].above != 0) {
                    return power;
                }
            }
            return -1;
        }

        Fraction fraction(int power) {
            return power < 0 || power >= fractions.length ? new Fraction(0, 1) : fractions[power];
        }

        Formula plus(Formula added) {
            Fraction[] row = new Fraction[MOST_DEGREE + 1];
            for (int power = 0; power < row.length; power++) {
                row[power] = fraction(power).plus(added.fraction(power));
            }
            return new Formula(row);
        }

        Formula scaled(Fraction factor) {
            Fraction[] row = new Fraction[MOST_DEGREE + 1];
            for (int power = 0; power < row.length; power++) {
                row[power] = fraction(power).multiplied(factor);
            }
            return new Formula(row);
        }

        /** Only for a product of a degree up to MOST_DEGREE: what would stand higher is left away. */
        Formula multiplied(Formula factor) {
            Fraction[] row = zeros();
            for (int power = 0; power < row.length; power++) {
                for (int own = 0; own <= power; own++) {
                    Fraction product = fraction(own).multiplied(factor.fraction(power - own));
                    row[power] = row[power].plus(product);
                }
            }
            return new Formula(row);
        }

        Formula slope() {
            Fraction[] row = new Fraction[MOST_DEGREE + 1];
            for (int power = 0; power < row.length; power++) {
                row[power] = fraction(power + 1).multiplied(new Fraction(power + 1, 1));
            }
            return new Formula(row);
        }

        /** Only for a degree below MOST_DEGREE. */
        Formula antiSlope() {
            Fraction[] row = zeros();
            for (int power = 1; power < row.length; power++) {
                row[power] = fraction(power - 1).multiplied(new Fraction(1, power));
            }
            return new Formula(row);
        }

        /** Starts at the highest power that is there, lest a step on the way pass MOST_DEGREE. */
        Formula withInside(Formula inner) {
            Formula result = constant(fraction(degree));
            for (int power = degree - 1; power >= 0; power--) {
                result = result.multiplied(inner).plus(constant(fraction(power)));
            }
            return result;
        }

        int whichKind() {
            return degree <= 0 ? KIND_NUMBER : KIND_POLYNOMIAL;
        }

        boolean isTooGreat() {
            for (int power = 0; power < fractions.length; power++) {
                if (fractions[power].isTooGreat()) {
                    return true;
                }
            }
            return false;
        }

        boolean isSameAs(Thing thing) {
            return thing instanceof Formula formula && hasFractionsOf(formula);
        }

        private boolean hasFractionsOf(Formula formula) {
            for (int power = 0; power <= MOST_DEGREE; power++) {
                if (fraction(power).against(formula.fraction(power)) != 0) {
                    return false;
                }
            }
            return true;
        }
    }

    /**
     * The signs of a formula along the line, cell by cell. Places cut the line into cells: left of the
     * first place, the place itself, between it and the next one, and so on, twice the places and one more.
     */
    private static final class Signs {
        private final Fraction[] places;
        private final int[] cells;

        private Signs(Fraction[] places, int[] cells) {
            this.places = places;
            this.cells = cells;
        }

        static Signs told(Formula formula) {
            if (formula.degree > 2) {
                throw new IllegalStateException("a degree that can't be told");
            }
            if (formula.degree == 2) {
                return ofSquare(formula);
            }
            return formula.degree == 1 ? ofSlant(formula) : ofFlat(formula.fraction(0).above);
        }

        private static Signs ofFlat(long value) {
            return new Signs(new Fraction[0], new int[] {Long.signum(value)});
        }

        private static Signs ofSlant(Formula formula) {
            Fraction free = formula.fraction(0);
            Fraction lead = formula.fraction(1);
            int right = Long.signum(lead.above);
            Fraction place = Fraction.of(-free.above * lead.below, free.below * lead.above);
            return new Signs(new Fraction[] {place}, new int[] {-right, 0, right});
        }

        /** Takes all belows away by one factor above 0: then an answer is a fraction if a whole root exists. */
        private static Signs ofSquare(Formula formula) {
            Fraction free = formula.fraction(0);
            Fraction middle = formula.fraction(1);
            Fraction lead = formula.fraction(2);
            long c = free.above * middle.below * lead.below;
            long b = middle.above * free.below * lead.below;
            long a = lead.above * free.below * middle.below;
            long inner = b * b - 4 * a * c;
            if (inner < 0) {
                return ofFlat(a);
            }
            long root = wholeRoot(inner);
            if (root * root != inner) {
                throw new IllegalStateException("an answer that is no fraction");
            }
            int outside = Long.signum(a);
            Fraction left = Fraction.of(-b - outside * root, 2 * a);
            if (root == 0) {
                return new Signs(new Fraction[] {left}, new int[] {outside, 0, outside});
            }
            Fraction right = Fraction.of(-b + outside * root, 2 * a);
            return new Signs(new Fraction[] {left, right}, new int[] {outside, 0, -outside, 0, outside});
        }

        /** The greatest whole number whose square isn't above the given one, bit by bit. */
        private static long wholeRoot(long square) {
            long root = 0;
            for (long bit = 1L << 30; bit > 0; bit >>= 1) {
                long tried = root + bit;
                if (tried * tried <= square) {
                    root = tried;
                }
            }
            return root;
        }

        LineSet chosen(int op) {
            boolean[] inside = new boolean[cells.length];
            for (int cell = 0; cell < cells.length; cell++) {
                inside[cell] = op == OP_ZERO ? cells[cell] == 0 : op == OP_BELOW ? cells[cell] < 0 : cells[cell] <= 0;
            }
            return LineSet.ofCells(places, inside, places.length);
        }
    }

    /**
     * A set of fractions: which cells of the line (see Signs) lie in it. A place at which nothing changes is
     * never kept, so that each place is an end of a piece, and equal sets have equal rows.
     */
    private static final class LineSet extends Thing {
        private final Fraction[] places;
        private final boolean[] cells;

        private LineSet(Fraction[] places, boolean[] cells) {
            this.places = places;
            this.cells = cells;
        }

        static LineSet wholeOrNone(boolean whole) {
            return new LineSet(new Fraction[0], new boolean[] {whole});
        }

        /** Of the first places of a row, with twice as many cells and one more. */
        static LineSet ofCells(Fraction[] places, boolean[] cells, int many) {
            int changes = 0;
            for (int place = 0; place < many; place++) {
                changes += isChange(cells, place) ? 1 : 0;
            }
            Fraction[] keptPlaces = new Fraction[changes];
            boolean[] keptCells = new boolean[2 * changes + 1];
            keptCells[0] = cells[0];
            int kept = 0;
            for (int place = 0; place < many && kept < changes; place++) {
                if (isChange(cells, place)) {
                    keptPlaces[kept] = places[place];
                    keptCells[2 * kept + 1] = cells[2 * place + 1];
                    keptCells[2 * kept + 2] = cells[2 * place + 2];
                    kept++;
                }
            }
            return new LineSet(keptPlaces, keptCells);
        }

        private static boolean isChange(boolean[] cells, int place) {
            boolean on = cells[2 * place + 1];
            return on != cells[2 * place] || on != cells[2 * place + 2];
        }

        LineSet met(LineSet set) {
            return combined(set, true);
        }

        LineSet joined(LineSet set) {
            return combined(set, false);
        }

        LineSet rest() {
            boolean[] turned = new boolean[cells.length];
            for (int cell = 0; cell < cells.length; cell++) {
                turned[cell] = !cells[cell];
            }
            return new LineSet(places, turned);
        }

        /** Goes from left to right over the places of both; one that both have is passed in one step. */
        private LineSet combined(LineSet set, boolean needsBoth) {
            int most = places.length + set.places.length;
            Fraction[] allPlaces = new Fraction[most];
            boolean[] allCells = new boolean[2 * most + 1];
            allCells[0] = decided(cells[0], set.cells[0], needsBoth);
            int own = 0;
            int its = 0;
            int many = 0;
            for (int step = 0; step < most && own + its < most; step++) {
                int order = nextPlace(own, set, its);
                int ownOn = order <= 0 ? 1 : 0;
                int itsOn = order >= 0 ? 1 : 0;
                allPlaces[many] = ownOn == 1 ? places[own] : set.places[its];
                allCells[2 * many + 1] = decided(cells[2 * own + ownOn], set.cells[2 * its + itsOn], needsBoth);
                own += ownOn;
                its += itsOn;
                allCells[2 * many + 2] = decided(cells[2 * own], set.cells[2 * its], needsBoth);
                many++;
            }
            return ofCells(allPlaces, allCells, many);
        }

        private static boolean decided(boolean first, boolean second, boolean needsBoth) {
            return needsBoth ? first && second : first || second;
        }

        /** -1 if the next place on the line is this set's own, 1 if it is the other set's, 0 if it is both's. */
        private int nextPlace(int own, LineSet set, int its) {
            if (own >= places.length) {
                return 1;
            }
            return its >= set.places.length ? -1 : places[own].against(set.places[its]);
        }

        boolean contains(Fraction value) {
            for (int place = 0; place < places.length; place++) {
                int order = value.against(places[place]);
                if (order <= 0) {
                    return cells[2 * place + (order == 0 ? 1 : 0)];
                }
            }
            return cells[cells.length - 1];
        }

        boolean isEmpty() {
            return places.length == 0 && !cells[0];
        }

        int pieceCount() {
            int many = 0;
            for (int cell = 0; cell < cells.length; cell++) {
                many += startsPiece(cell) ? 1 : 0;
            }
            return many;
        }

        private boolean startsPiece(int cell) {
            return cells[cell] && (cell == 0 || !cells[cell - 1]);
        }

        /** The leftmost cell of a piece; -1 if there is no such piece. */
        int firstCell(int piece) {
            int passed = 0;
            for (int cell = 0; cell < cells.length; cell++) {
                if (startsPiece(cell)) {
                    if (passed == piece) {
                        return cell;
                    }
                    passed++;
                }
            }
            return -1;
        }

        int lastCell(int first) {
            int last = first;
            for (int cell = first + 1; cell < cells.length && cells[cell]; cell++) {
                last = cell;
            }
            return last;
        }

        /** Odd cells are single places: there the end lies in the piece. */
        int endForm(int cell, int side) {
            if (endPlace(cell, side) < 0) {
                return NO_END;
            }
            return cell % 2 == 1 ? END_INSIDE : END_OUTSIDE;
        }

        Fraction endFraction(int cell, int side) {
            int place = endPlace(cell, side);
            return place < 0 ? new Fraction(0, 1) : places[place];
        }

        /** The place that ends a piece at its outermost cell on a side; -1 if the line goes on there. */
        private int endPlace(int cell, int side) {
            int place = side == LEFT ? Math.floorDiv(cell - 1, 2) : cell / 2;
            return place < places.length ? place : -1;
        }

        int whichKind() {
            return KIND_SET;
        }

        boolean isTooGreat() {
            for (int place = 0; place < places.length; place++) {
                if (places[place].isTooGreat()) {
                    return true;
                }
            }
            return false;
        }

        boolean isSameAs(Thing thing) {
            return thing instanceof LineSet set && hasCellsOf(set);
        }

        private boolean hasCellsOf(LineSet set) {
            if (set.places.length != places.length || set.cells[0] != cells[0]) {
                return false;
            }
            for (int place = 0; place < places.length; place++) {
                if (places[place].against(set.places[place]) != 0
                        || cells[2 * place + 1] != set.cells[2 * place + 1]
                        || cells[2 * place + 2] != set.cells[2 * place + 2]) {
                    return false;
                }
            }
            return true;
        }
    }
}
