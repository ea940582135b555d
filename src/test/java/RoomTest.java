import com.sun.management.ThreadMXBean;
import java.lang.management.ManagementFactory;

/**
 * The room of a run: 600,000 objects and arrays, 7.3 million fields and elements. No object takes fewer than 16
 * bytes and no element less than one, so a run that takes less than 7.3 million bytes keeps to both.
 */
public final class RoomTest {
    private static final Checks CHECKS = new Checks("RoomTest");
    private static final long ROOM = 7_300_000;
    private static final int CALLS = 512;
    /** count() and assume, beside the calls that made the things of a house. */
    private static final int ASKED_BEFORE = 2;

    /** Handles of the house with many ends. */
    private static final int SQUARE = 1;
    private static final int SQUARE_LESS_ONE = 4;
    private static final int POINTS = 78;

    interface Run {
        Object asked(FormulaHouse house, int call);
    }

    public static void main(String[] args) {
        puts();
        products();
        refusals();
        sets();
        CHECKS.finish();
    }

    private static void puts() {
        FormulaHouse h = new FormulaHouse();
        int cube = Written.made(h, "59/60 53/57 47/59 43/58");
        int line = Written.made(h, "58/57 59/56");
        fits("put", h, (house, k) -> house.put(cube, line));
    }

    private static void products() {
        FormulaHouse h = new FormulaHouse();
        int square = Written.made(h, "53/57 47/59 43/58");
        int line = Written.made(h, "58/57 59/56");
        fits("times", h, (house, k) -> house.times(square, line));
    }

    private static void refusals() {
        fits("a refusal", new FormulaHouse(), (h, k) -> h.kind(k));
    }

    private static void sets() {
        CHECKS.due("pieces of the set of points", manyEnds().pieces(POINTS), 39);
        fits("both", manyEnds(), (h, k) -> h.both(POINTS, POINTS));
        fits("either", manyEnds(), (h, k) -> h.either(POINTS, POINTS));
        fits("other", manyEnds(), (h, k) -> h.other(POINTS));
        FormulaHouse assumed = manyEnds();
        assumed.assume(POINTS);
        fits("sign", assumed, (h, k) -> h.sign(SQUARE_LESS_ONE));
    }

    /** The points 0, 1, -1, .. 7, -7, and some with 7 and 5 below: as many as 79 things make. */
    private static FormulaHouse manyEnds() {
        FormulaHouse h = new FormulaHouse();
        h.letter();
        h.times(0, 0);
        int points = h.where(SQUARE, 0);
        for (int below : new int[] {1, 7, 5}) {
            for (int above = 1; above <= 7 && points < POINTS; above++) {
                if (below == 1 || above != below) {
                    int zeros = h.less(SQUARE, h.number(above * above, below * below));
                    points = h.either(points, h.where(zeros, 0));
                }
            }
        }
        return h;
    }

    /** A full house refuses to make more, but the work for the answer is done before that. */
    private static void fits(String name, FormulaHouse house, Run run) {
        ThreadMXBean bean = (ThreadMXBean) ManagementFactory.getThreadMXBean();
        long thread = Thread.currentThread().getId();
        int calls = CALLS - ASKED_BEFORE - house.count();
        long before = bean.getThreadAllocatedBytes(thread);
        for (int call = 0; call < calls; call++) {
            int asked = call;
            Written.answer(() -> run.asked(house, asked));
        }
        long taken = (bean.getThreadAllocatedBytes(thread) - before) * CALLS / calls;
        CHECKS.due("512 times " + name + " in " + taken + " bytes fits", taken > 0 && taken < ROOM, true);
    }
}
