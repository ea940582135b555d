import java.util.Random;

/** All promises: long runs of calls by a fixed seed, each answer compared with that of Model. */
public final class RandomRunsTest {
    private static final Checks CHECKS = new Checks("RandomRunsTest");
    private static final int CALLS = 512;
    private static final int[] ODD = {-1, 80, Integer.MIN_VALUE, Integer.MAX_VALUE};
    private static final String[] NAMES = {
        "number", "letter", "add", "less", "times", "over", "derive", "integral", "put", "where", "both", "either",
        "other", "kind", "degree", "at", "pieces", "end", "holds", "assume", "sign", "same", "count",
    };
    private static final int MAKERS = 13;

    private final Random random;
    private final FormulaHouse house = new FormulaHouse();
    private final Model model = new Model();
    /** How often a call asks for what is there and fits, in percent. */
    private final int tame;
    private final int greatest;
    private int used = 0;

    private RandomRunsTest(long seed) {
        random = new Random(seed);
        tame = seed % 3 == 0 ? 70 : 95;
        greatest = seed % 4 == 0 ? 60 : 6;
    }

    public static void main(String[] args) {
        int runs = args.length > 0 ? Integer.parseInt(args[0]) : 600;
        for (int seed = 1; seed <= runs; seed++) {
            new RandomRunsTest(seed).run(seed);
        }
        CHECKS.finish();
    }

    /** Every second run also reads each thing as soon as it is made, and has fewer other calls for that. */
    private void run(int seed) {
        boolean reads = seed % 2 == 0;
        for (int k = 0; used < CALLS; k++) {
            int[] call = chosenCall();
            String name = "seed " + seed + " call " + k + " " + NAMES[call[0]] + "(" + call[1] + ", " + call[2] + ", "
                    + call[3] + ", " + call[4] + ")";
            int before = model.count();
            compare(name, () -> onHouse(call), () -> onModel(call));
            if (reads && model.count() > before) {
                compareNewest(name);
            }
        }
    }

    /** No house is asked more often than the document allows. */
    private void compare(String name, Checks.Call ofHouse, Checks.Call ofModel) {
        if (used < CALLS) {
            used++;
            CHECKS.due(name, answer(ofHouse), answer(ofModel));
        }
    }

    private void compareNewest(String name) {
        int f = model.count() - 1;
        int kind = model.kind(f);
        compare("count behind " + name, house::count, model::count);
        compare("kind behind " + name, () -> house.kind(f), () -> kind);
        if (kind < 2) {
            compare("degree behind " + name, () -> house.degree(f), () -> model.degree(f));
            for (int k = 0; k < 8; k++) {
                int power = k / 2;
                int part = k % 2;
                compare("at " + k + " behind " + name, () -> house.at(f, power, part), () -> model.at(f, power, part));
            }
            return;
        }
        int pieces = model.pieces(f);
        compare("pieces behind " + name, () -> house.pieces(f), () -> pieces);
        for (int k = 0; k < 6 * pieces; k++) {
            int piece = k / 6;
            int side = k / 3 % 2;
            int part = k % 3;
            compare("end " + k + " behind " + name, () -> house.end(f, piece, side, part),
                    () -> model.end(f, piece, side, part));
        }
    }

    /** Early on things are made; when there are some, all calls are as likely. */
    private int[] chosenCall() {
        boolean make = model.count() < 12 || random.nextInt(100) < 45;
        int which = make ? random.nextInt(MAKERS) : MAKERS + random.nextInt(NAMES.length - MAKERS);
        String name = NAMES[which];
        int[] call = {which, 0, 0, 0, 0};
        switch (name) {
            case "number" -> { call[1] = part(); call[2] = part(); }
            case "over" -> { call[1] = handle(1); call[2] = handle(0); }
            case "derive", "integral", "degree", "sign" -> call[1] = handle(1);
            case "where" -> { call[1] = handle(1); call[2] = index(3); }
            case "both", "either" -> { call[1] = handle(2); call[2] = handle(2); }
            case "other", "pieces", "assume" -> call[1] = handle(2);
            case "at" -> { call[1] = handle(1); call[2] = index(4); call[3] = index(2); }
            case "end" -> { call[1] = handle(2); call[2] = index(3); call[3] = index(2); call[4] = index(3); }
            case "holds" -> { call[1] = handle(2); call[2] = handle(0); }
            case "kind", "same" -> { int kind = random.nextInt(3); call[1] = handle(kind); call[2] = handle(kind); }
            case "letter", "count" -> { }
            default -> { call[1] = handle(1); call[2] = handle(random.nextInt(2)); }
        }
        return call;
    }

    private int part() {
        int chance = random.nextInt(200);
        if (chance == 0) {
            return ODD[random.nextInt(ODD.length)];
        }
        return chance < 6 ? random.nextInt(201) - 100 : random.nextInt(2 * greatest + 1) - greatest;
    }

    private int index(int bound) {
        return random.nextInt(100) < tame ? random.nextInt(bound) : odd();
    }

    private int odd() {
        return random.nextInt(4) == 0 ? ODD[random.nextInt(ODD.length)] : random.nextInt(6) - 1;
    }

    /** Of up to a kind: 0 a number, 1 a number or polynomial, 2 a set; now and then of any, or none. */
    private int handle(int kind) {
        if (random.nextInt(100) >= tame) {
            return random.nextBoolean() ? odd() : random.nextInt(model.count() + 2) - 1;
        }
        for (int tries = 0; tries < 60 && model.count() > 0; tries++) {
            int f = random.nextInt(model.count());
            int has = model.kind(f);
            if (has == kind || kind == 1 && has == 0 && tries > 3) {
                return f;
            }
        }
        return random.nextInt(model.count() + 1);
    }

    private static Object answer(Checks.Call call) {
        try {
            return call.answer();
        } catch (RuntimeException e) {
            return e.getClass();
        }
    }

    private Object onHouse(int[] c) {
        return switch (NAMES[c[0]]) {
            case "number" -> house.number(c[1], c[2]);
            case "letter" -> house.letter();
            case "add" -> house.add(c[1], c[2]);
            case "less" -> house.less(c[1], c[2]);
            case "times" -> house.times(c[1], c[2]);
            case "over" -> house.over(c[1], c[2]);
            case "derive" -> house.derive(c[1]);
            case "integral" -> house.integral(c[1]);
            case "put" -> house.put(c[1], c[2]);
            case "where" -> house.where(c[1], c[2]);
            case "both" -> house.both(c[1], c[2]);
            case "either" -> house.either(c[1], c[2]);
            case "other" -> house.other(c[1]);
            case "kind" -> house.kind(c[1]);
            case "degree" -> house.degree(c[1]);
            case "at" -> house.at(c[1], c[2], c[3]);
            case "pieces" -> house.pieces(c[1]);
            case "end" -> house.end(c[1], c[2], c[3], c[4]);
            case "holds" -> house.holds(c[1], c[2]) ? 1 : 0;
            case "assume" -> house.assume(c[1]) ? 1 : 0;
            case "sign" -> house.sign(c[1]);
            case "same" -> house.same(c[1], c[2]) ? 1 : 0;
            default -> house.count();
        };
    }

    private Object onModel(int[] c) {
        return switch (NAMES[c[0]]) {
            case "number" -> model.number(c[1], c[2]);
            case "letter" -> model.letter();
            case "add" -> model.add(c[1], c[2]);
            case "less" -> model.less(c[1], c[2]);
            case "times" -> model.times(c[1], c[2]);
            case "over" -> model.over(c[1], c[2]);
            case "derive" -> model.derive(c[1]);
            case "integral" -> model.integral(c[1]);
            case "put" -> model.put(c[1], c[2]);
            case "where" -> model.where(c[1], c[2]);
            case "both" -> model.both(c[1], c[2]);
            case "either" -> model.either(c[1], c[2]);
            case "other" -> model.other(c[1]);
            case "kind" -> model.kind(c[1]);
            case "degree" -> model.degree(c[1]);
            case "at" -> model.at(c[1], c[2], c[3]);
            case "pieces" -> model.pieces(c[1]);
            case "end" -> model.end(c[1], c[2], c[3], c[4]);
            case "holds" -> model.holds(c[1], c[2]);
            case "assume" -> model.assume(c[1]);
            case "sign" -> model.sign(c[1]);
            case "same" -> model.same(c[1], c[2]);
            default -> model.count();
        };
    }
}
