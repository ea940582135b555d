import java.util.ArrayList;
import java.util.Arrays;
import java.util.List;

/** The sentences of "Terms" on exceptions: every call, every place of a handle in it, every mixture of wrongs. */
final class Refusals {
    private static final Class<?> INDEX = IndexOutOfBoundsException.class;
    private static final Class<?> ARGUMENT = IllegalArgumentException.class;
    private static final Class<?> ARITHMETIC = ArithmeticException.class;
    private static final Class<?> STATE = IllegalStateException.class;

    /** Handles of the house that each check makes anew: x, 0, 1/2, all left of 0, none, xx, xxx, xx - 2. */
    private static final int X = 0;
    private static final int ZERO = 1;
    private static final int HALF = 2;
    private static final int SET = 3;
    private static final int NONE = 4;
    private static final int SQUARE = 5;
    private static final int CUBE = 6;
    private static final int ROOT = 8;
    private static final int THERE = 9;

    interface Asked {
        Object answer(FormulaHouse house, int[] arguments);
    }

    /**
     * A call, and for each argument what it is: f a number or polynomial, n a number, s a set, a any thing;
     * o an op, p a power, 1 and 2 the last part, k a piece, d a side.
     */
    record Call(String name, String places, Asked asked) {
    }

    private static final Call NUMBER = new Call("number", "", (h, a) -> h.number(a[0], a[1]));
    private static final Call LETTER = new Call("letter", "", (h, a) -> h.letter());
    private static final Call TIMES = new Call("times", "ff", (h, a) -> h.times(a[0], a[1]));
    private static final Call OVER = new Call("over", "fn", (h, a) -> h.over(a[0], a[1]));
    private static final Call INTEGRAL = new Call("integral", "f", (h, a) -> h.integral(a[0]));
    private static final Call PUT = new Call("put", "ff", (h, a) -> h.put(a[0], a[1]));
    private static final Call WHERE = new Call("where", "fo", (h, a) -> h.where(a[0], a[1]));
    private static final Call END = new Call("end", "skd2", (h, a) -> h.end(a[0], a[1], a[2], a[3]));
    private static final Call ASSUME = new Call("assume", "s", (h, a) -> h.assume(a[0]));
    private static final Call SIGN = new Call("sign", "f", (h, a) -> h.sign(a[0]));

    /** Those that make something of handles. */
    private static final List<Call> MAKERS = List.of(
            new Call("add", "ff", (h, a) -> h.add(a[0], a[1])),
            new Call("less", "ff", (h, a) -> h.less(a[0], a[1])),
            TIMES, OVER,
            new Call("derive", "f", (h, a) -> h.derive(a[0])),
            INTEGRAL, PUT, WHERE,
            new Call("both", "ss", (h, a) -> h.both(a[0], a[1])),
            new Call("either", "ss", (h, a) -> h.either(a[0], a[1])),
            new Call("other", "s", (h, a) -> h.other(a[0])));
    /** Those that make nothing. */
    private static final List<Call> ASKERS = List.of(
            new Call("kind", "a", (h, a) -> h.kind(a[0])),
            new Call("degree", "f", (h, a) -> h.degree(a[0])),
            new Call("at", "fp1", (h, a) -> h.at(a[0], a[1], a[2])),
            new Call("pieces", "s", (h, a) -> h.pieces(a[0])),
            END,
            new Call("holds", "sn", (h, a) -> h.holds(a[0], a[1])),
            ASSUME, SIGN,
            new Call("same", "aa", (h, a) -> h.same(a[0], a[1])));

    private final Checks checks;
    private final Document document;

    Refusals(Checks checks, Document document) {
        this.checks = checks;
        this.document = document;
    }

    void run() {
        says("nothing changes.");
        for (boolean full : new boolean[] {false, true}) {
            noSuchThing(full);
            noSuchPiece(full);
            anotherKind(full);
            asSaid(full);
            dividedByZero(full);
            thingAheadOfKind(full);
            thingAheadOfTheRest(full);
            argumentAheadOfTheRest(full);
            aroundThePiece(full);
        }
        eightyThings();
        tooGreat();
        cantBeTold();
        theNextHandle();
    }

    private void says(String words) {
        document.says("Terms", words);
    }

    private static FormulaHouse house(boolean full) {
        FormulaHouse h = new FormulaHouse();
        h.letter();
        h.number(0, 1);
        h.number(1, 2);
        h.where(X, 1);
        h.where(HALF, 0);
        h.times(X, X);
        h.times(X, SQUARE);
        h.less(SQUARE, h.number(2, 1));
        h.assume(SET);
        for (int k = h.count(); full && k < 80; k++) {
            h.number(k % 7, 1);
        }
        return h;
    }

    private static List<Call> callsWithHandles() {
        List<Call> calls = new ArrayList<>(MAKERS);
        calls.addAll(ASKERS);
        return calls;
    }

    private static boolean isHandle(char place) {
        return "fnsa".indexOf(place) >= 0;
    }

    private static int[] fitting(Call call) {
        int[] arguments = new int[call.places().length()];
        for (int k = 0; k < arguments.length; k++) {
            char place = call.places().charAt(k);
            arguments[k] = place == 's' ? SET : place == 'n' ? HALF : 0;
        }
        return arguments;
    }

    private static int[] with(int[] arguments, int place, int value) {
        int[] changed = arguments.clone();
        changed[place] = value;
        return changed;
    }

    private static int[] missing(boolean full) {
        int count = full ? 80 : THERE;
        return new int[] {-1, count, 80, 256, 1 << 16, Integer.MIN_VALUE, Integer.MAX_VALUE};
    }

    private static int[] wrongKinds(char place) {
        return switch (place) {
            case 'f' -> new int[] {SET, NONE};
            case 'n' -> new int[] {X, CUBE, SET, NONE};
            case 's' -> new int[] {X, CUBE, ZERO, HALF};
            default -> new int[0];
        };
    }

    private static int[] wrongOthers(char place) {
        int most = place == 'o' || place == '2' ? 2 : place == 'd' || place == '1' ? 1 : 0;
        return most == 0 ? new int[0] : new int[] {-1, most + 1, 256, Integer.MIN_VALUE, Integer.MAX_VALUE};
    }

    /** On a new house: the very class is thrown, and then all is as in a house that wasn't asked. */
    private void refused(boolean full, Class<?> want, Call call, int... arguments) {
        FormulaHouse h = house(full);
        String name = call.name() + Arrays.toString(arguments) + (full ? " of a full house" : "");
        Class<?> got = null;
        try {
            call.asked().answer(h, arguments);
        } catch (RuntimeException e) {
            got = e.getClass();
        }
        checks.due(name + " throws", got, want);
        checks.due("what is there behind " + name, state(h), state(house(full)));
    }

    private static String state(FormulaHouse h) {
        StringBuilder out = new StringBuilder();
        for (int handle = 0; handle < h.count(); handle += handle < THERE ? 1 : 7) {
            out.append(Written.read(h, handle)).append("; ");
        }
        return out.append(h.count()).append(h.assume(SET) ? " assumed another" : "").toString();
    }

    private void noSuchThing(boolean full) {
        says("IndexOutOfBoundsException: no such THING, PIECE.");
        for (Call call : callsWithHandles()) {
            for (int place = 0; place < call.places().length(); place++) {
                for (int handle : isHandle(call.places().charAt(place)) ? missing(full) : new int[0]) {
                    refused(full, INDEX, call, with(fitting(call), place, handle));
                }
            }
        }
    }

    private void noSuchPiece(boolean full) {
        for (int piece : new int[] {-1, 1, 2, 256, 1 << 16, Integer.MIN_VALUE, Integer.MAX_VALUE}) {
            refused(full, INDEX, END, SET, piece, 0, 0);
            refused(full, INDEX, END, NONE, piece, 0, 0);
        }
        refused(full, INDEX, END, NONE, 0, 0, 0);
        refused(full, INDEX, END, NONE, 0, 1, 2);
    }

    private void anotherKind(boolean full) {
        says("IllegalArgumentException: a THING of another KIND; or as said.");
        for (Call call : callsWithHandles()) {
            for (int place = 0; place < call.places().length(); place++) {
                for (int handle : wrongKinds(call.places().charAt(place))) {
                    refused(full, ARGUMENT, call, with(fitting(call), place, handle));
                }
            }
        }
    }

    /** Another op, part or side; a set without pieces is assumed. */
    private void asSaid(boolean full) {
        for (Call call : callsWithHandles()) {
            for (int place = 0; place < call.places().length(); place++) {
                for (int value : wrongOthers(call.places().charAt(place))) {
                    refused(full, ARGUMENT, call, with(fitting(call), place, value));
                }
            }
        }
        refused(full, ARGUMENT, ASSUME, NONE);
    }

    private void dividedByZero(boolean full) {
        says("ArithmeticException: a NUMBER that is 0 is what is divided by.");
        for (int divided : new int[] {X, ZERO, HALF, SQUARE, CUBE}) {
            refused(full, ARITHMETIC, OVER, divided, ZERO);
        }
        for (int above : new int[] {0, 1, -1, 61, Integer.MIN_VALUE, Integer.MAX_VALUE}) {
            refused(full, ARITHMETIC, NUMBER, above, 0);
        }
    }

    /** Two handles, one of them missing, the other of another kind. */
    private void thingAheadOfKind(boolean full) {
        says("Of several the one that stands first behind \"throws\" is thrown;");
        for (Call call : callsWithHandles()) {
            for (int place = 0; call.places().length() == 2 && place < 2; place++) {
                for (int handle : wrongKinds(call.places().charAt(place))) {
                    int[] wrong = with(fitting(call), place, handle);
                    char second = call.places().charAt(1 - place);
                    for (int absent : isHandle(second) ? missing(full) : new int[0]) {
                        refused(full, INDEX, call, with(wrong, 1 - place, absent));
                    }
                }
            }
        }
    }

    /** A missing thing beside another op, part or side, or 0 as a divisor. */
    private void thingAheadOfTheRest(boolean full) {
        for (Call call : callsWithHandles()) {
            for (int place = 1; place < call.places().length(); place++) {
                for (int value : wrongOthers(call.places().charAt(place))) {
                    int[] wrong = with(fitting(call), place, value);
                    refused(full, INDEX, call, with(wrong, 0, -1));
                    refused(full, INDEX, call, with(wrong, 0, full ? 80 : THERE));
                }
            }
        }
        refused(full, INDEX, OVER, -1, ZERO);
        refused(full, INDEX, OVER, 80, ZERO);
    }

    /** Of another kind, or an op that isn't there, beside 0 as a divisor, what is too great, or can't be told. */
    private void argumentAheadOfTheRest(boolean full) {
        refused(full, ARGUMENT, OVER, SET, ZERO);
        refused(full, ARGUMENT, OVER, NONE, ZERO);
        refused(full, ARGUMENT, OVER, ZERO, CUBE);
        refused(full, ARGUMENT, TIMES, CUBE, SET);
        refused(full, ARGUMENT, PUT, SET, CUBE);
        for (int op : new int[] {-1, 3}) {
            refused(full, ARGUMENT, WHERE, CUBE, op);
            refused(full, ARGUMENT, WHERE, ROOT, op);
            refused(full, ARGUMENT, WHERE, SET, op);
        }
    }

    private void aroundThePiece(boolean full) {
        document.says("Promise 19", "(No such PIECE: behind another KIND, ahead of these.)");
        for (int piece : new int[] {-1, 1, Integer.MAX_VALUE}) {
            refused(full, INDEX, END, -1, piece, 0, 0);
            refused(full, ARGUMENT, END, X, piece, 0, 0);
            refused(full, ARGUMENT, END, ZERO, piece, 2, 3);
            refused(full, INDEX, END, SET, piece, 2, 0);
            refused(full, INDEX, END, SET, piece, 0, 3);
            refused(full, INDEX, END, NONE, piece, -1, -1);
        }
        refused(full, INDEX, END, NONE, 0, 2, 3);
        refused(full, INDEX, END, 80, 0, 2, 3);
    }

    /** The last handle is given away by each maker; then each of them is refused, and the others still answer. */
    private void eightyThings() {
        says("IllegalStateException: there are 80, or what is made is TOO GREAT, or can't be TOLD.");
        for (Call call : MAKERS) {
            FormulaHouse h = house(false);
            for (int k = h.count(); k < 79; k++) {
                h.letter();
            }
            int[] fits = fitting(call);
            checks.due(call.name() + " makes the last one", Written.answer(() -> call.asked().answer(h, fits)), 79);
            checks.due(call.name() + " once more", Written.answer(() -> call.asked().answer(h, fits)),
                    "IllegalStateException");
            refused(true, STATE, call, fits);
        }
        refused(true, STATE, NUMBER, 1, 1);
        refused(true, STATE, LETTER);
        for (Call call : ASKERS) {
            Object due = call.asked().answer(house(false), fitting(call));
            checks.due(call.name() + " of a full house", call.asked().answer(house(true), fitting(call)), due);
        }
    }

    private void tooGreat() {
        for (boolean full : new boolean[] {false, true}) {
            refused(full, STATE, NUMBER, 61, 1);
            refused(full, STATE, NUMBER, 1, -61);
            refused(full, STATE, TIMES, CUBE, X);
            refused(full, STATE, TIMES, SQUARE, ROOT);
            refused(full, STATE, INTEGRAL, CUBE);
            refused(full, STATE, PUT, SQUARE, ROOT);
            refused(full, STATE, PUT, CUBE, CUBE);
        }
    }

    private void cantBeTold() {
        for (boolean full : new boolean[] {false, true}) {
            for (int op = 0; op <= 2; op++) {
                refused(full, STATE, WHERE, CUBE, op);
                refused(full, STATE, WHERE, ROOT, op);
            }
            refused(full, STATE, SIGN, CUBE);
            refused(full, STATE, SIGN, ROOT);
        }
    }

    /** A refused call takes no handle. */
    private void theNextHandle() {
        FormulaHouse h = house(false);
        for (int k = 0; k < 20; k++) {
            Written.answer(() -> h.number(61, 1));
            Written.answer(() -> h.times(CUBE, CUBE));
            Written.answer(() -> h.where(ROOT, 0));
            Written.answer(() -> h.add(X, SET));
            Written.answer(() -> h.over(X, ZERO));
        }
        checks.due("the next handle behind 100 refusals", h.letter(), THERE);
    }
}
