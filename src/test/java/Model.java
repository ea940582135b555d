import java.math.BigInteger;
import java.util.ArrayList;
import java.util.List;
import java.util.TreeSet;

/**
 * The document once more, in another way, for RandomRunsTest to compare with: whole numbers without a bound,
 * and sets that are only asked whether a fraction is in them. Refusals are thrown as the document says.
 */
final class Model {
    /** A fraction of any size. */
    record Q(BigInteger above, BigInteger below) implements Comparable<Q> {
        static Q of(BigInteger above, BigInteger below) {
            BigInteger g = above.gcd(below);
            g = below.signum() < 0 ? g.negate() : g;
            return new Q(above.divide(g), below.divide(g));
        }

        static Q of(long whole) {
            return new Q(BigInteger.valueOf(whole), BigInteger.ONE);
        }

        Q plus(Q q) {
            return of(above.multiply(q.below).add(q.above.multiply(below)), below.multiply(q.below));
        }

        Q by(Q q) {
            return of(above.multiply(q.above), below.multiply(q.below));
        }

        Q upsideDown() {
            return of(below, above);
        }

        Q negated() {
            return of(above.negate(), below);
        }

        int sign() {
            return above.signum();
        }

        boolean tooGreat() {
            BigInteger most = BigInteger.valueOf(60);
            return above.abs().compareTo(most) > 0 || below.compareTo(most) > 0;
        }

        /** The root, or null if it is no fraction; only for what isn't below 0. */
        Q root() {
            BigInteger[] a = above.sqrtAndRemainder();
            BigInteger[] b = below.sqrtAndRemainder();
            return a[1].signum() == 0 && b[1].signum() == 0 ? new Q(a[0], b[0]) : null;
        }

        @Override
        public int compareTo(Q q) {
            return above.multiply(q.below).compareTo(q.above.multiply(below));
        }

        @Override
        public String toString() {
            return below.equals(BigInteger.ONE) ? above.toString() : above + "/" + below;
        }
    }

    interface Member {
        boolean has(Q q);
    }

    /** A set: who is in it, and the places at which that may change. */
    record Part(Member member, TreeSet<Q> places) {
    }

    /** An end of a piece; without a fraction there is none. */
    record End(Q at, boolean inside) {
    }

    final List<Object> things = new ArrayList<>();
    private Part assumed = new Part(q -> true, new TreeSet<>());

    int number(int above, int below) {
        if (below == 0) {
            throw new ArithmeticException();
        }
        return keep(List.of(Q.of(BigInteger.valueOf(above), BigInteger.valueOf(below))));
    }

    int letter() {
        return keep(List.of(Q.of(0), Q.of(1)));
    }

    int add(int f, int g) {
        look(f, g);
        return keep(sum(polynomial(f), polynomial(g)));
    }

    int less(int f, int g) {
        look(f, g);
        return keep(sum(polynomial(f), product(List.of(Q.of(-1)), polynomial(g))));
    }

    int times(int f, int g) {
        look(f, g);
        return keep(product(polynomial(f), polynomial(g)));
    }

    int over(int f, int g) {
        look(f, g);
        List<Q> top = polynomial(f);
        Q bottom = value(g);
        if (bottom.sign() == 0) {
            throw new ArithmeticException();
        }
        return keep(product(top, List.of(bottom.upsideDown())));
    }

    int derive(int f) {
        look(f, f);
        List<Q> from = polynomial(f);
        List<Q> made = new ArrayList<>();
        for (int k = 1; k < from.size(); k++) {
            made.add(from.get(k).by(Q.of(k)));
        }
        return keep(made);
    }

    int integral(int f) {
        look(f, f);
        List<Q> from = polynomial(f);
        List<Q> made = new ArrayList<>(List.of(Q.of(0)));
        for (int k = 0; k < from.size(); k++) {
            made.add(from.get(k).by(Q.of(k + 1).upsideDown()));
        }
        return keep(made);
    }

    int put(int f, int g) {
        look(f, g);
        List<Q> outer = polynomial(f);
        List<Q> inner = polynomial(g);
        List<Q> made = new ArrayList<>();
        List<Q> power = List.of(Q.of(1));
        for (Q q : outer) {
            made = sum(made, product(power, List.of(q)));
            power = product(power, inner);
        }
        return keep(made);
    }

    int where(int f, int op) {
        look(f, f);
        List<Q> p = polynomial(f);
        if (op < 0 || op > 2) {
            throw new IllegalArgumentException();
        }
        return keep(new Part(q -> op == 0 ? at(p, q).sign() == 0
                : op == 1 ? at(p, q).sign() < 0 : at(p, q).sign() <= 0, zeros(p)));
    }

    int both(int s, int t) {
        look(s, t);
        Part a = part(s);
        Part b = part(t);
        return keep(new Part(q -> a.member.has(q) && b.member.has(q), places(a, b)));
    }

    int either(int s, int t) {
        look(s, t);
        Part a = part(s);
        Part b = part(t);
        return keep(new Part(q -> a.member.has(q) || b.member.has(q), places(a, b)));
    }

    int other(int s) {
        look(s, s);
        Part a = part(s);
        return keep(new Part(q -> !a.member.has(q), a.places));
    }

    int kind(int f) {
        look(f, f);
        return things.get(f) instanceof Part ? 2 : polynomial(f).size() > 1 ? 1 : 0;
    }

    int degree(int f) {
        look(f, f);
        return polynomial(f).size() - 1;
    }

    int at(int f, int power, int part) {
        look(f, f);
        List<Q> p = polynomial(f);
        if (part < 0 || part > 1) {
            throw new IllegalArgumentException();
        }
        Q q = power >= 0 && power < p.size() ? p.get(power) : Q.of(0);
        return (part == 0 ? q.above : q.below).intValueExact();
    }

    int pieces(int s) {
        look(s, s);
        return ends(part(s)).size() / 2;
    }

    int end(int s, int k, int side, int part) {
        look(s, s);
        List<End> ends = ends(part(s));
        if (k < 0 || k >= ends.size() / 2) {
            throw new IndexOutOfBoundsException();
        }
        if (side < 0 || side > 1 || part < 0 || part > 2) {
            throw new IllegalArgumentException();
        }
        End end = ends.get(2 * k + side);
        if (part == 0) {
            return end.at == null ? 0 : end.inside ? 2 : 1;
        }
        Q q = end.at == null ? Q.of(0) : end.at;
        return (part == 1 ? q.above : q.below).intValueExact();
    }

    int holds(int s, int v) {
        look(s, v);
        Part a = part(s);
        return a.member.has(value(v)) ? 1 : 0;
    }

    int assume(int s) {
        look(s, s);
        Part a = part(s);
        if (ends(a).isEmpty()) {
            throw new IllegalArgumentException();
        }
        boolean changed = !ends(a).equals(ends(assumed));
        assumed = a;
        return changed ? 1 : 0;
    }

    int sign(int f) {
        look(f, f);
        List<Q> p = polynomial(f);
        TreeSet<Q> all = new TreeSet<>(assumed.places);
        all.addAll(zeros(p));
        TreeSet<Integer> signs = new TreeSet<>();
        for (Q q : cells(all)) {
            if (assumed.member.has(q)) {
                signs.add(at(p, q).sign());
            }
        }
        return signs.size() == 1 ? signs.first() : 2;
    }

    int same(int f, int g) {
        look(f, g);
        if (kind(f) != kind(g)) {
            return 0;
        }
        boolean same = kind(f) == 2 ? ends(part(f)).equals(ends(part(g))) : polynomial(f).equals(polynomial(g));
        return same ? 1 : 0;
    }

    int count() {
        return things.size();
    }

    private void look(int f, int g) {
        if (f < 0 || f >= things.size() || g < 0 || g >= things.size()) {
            throw new IndexOutOfBoundsException();
        }
    }

    @SuppressWarnings("unchecked")
    private List<Q> polynomial(int f) {
        if (things.get(f) instanceof Part) {
            throw new IllegalArgumentException();
        }
        return (List<Q>) things.get(f);
    }

    private Q value(int f) {
        List<Q> p = polynomial(f);
        if (p.size() > 1) {
            throw new IllegalArgumentException();
        }
        return p.isEmpty() ? Q.of(0) : p.get(0);
    }

    private Part part(int s) {
        if (things.get(s) instanceof Part part) {
            return part;
        }
        throw new IllegalArgumentException();
    }

    /** Without zeros behind the last power, so that 0 is the empty row. */
    private int keep(List<Q> row) {
        List<Q> kept = new ArrayList<>(row);
        while (!kept.isEmpty() && kept.get(kept.size() - 1).sign() == 0) {
            kept.remove(kept.size() - 1);
        }
        if (things.size() == 80 || kept.size() > 4 || kept.stream().anyMatch(Q::tooGreat)) {
            throw new IllegalStateException();
        }
        things.add(kept);
        return things.size() - 1;
    }

    private int keep(Part part) {
        if (things.size() == 80 || ends(part).stream().anyMatch(end -> end.at != null && end.at.tooGreat())) {
            throw new IllegalStateException();
        }
        things.add(part);
        return things.size() - 1;
    }

    private static List<Q> sum(List<Q> a, List<Q> b) {
        List<Q> made = new ArrayList<>();
        for (int k = 0; k < Math.max(a.size(), b.size()); k++) {
            made.add((k < a.size() ? a.get(k) : Q.of(0)).plus(k < b.size() ? b.get(k) : Q.of(0)));
        }
        return made;
    }

    private static List<Q> product(List<Q> a, List<Q> b) {
        List<Q> made = new ArrayList<>();
        for (int k = 0; k < a.size() + b.size(); k++) {
            made.add(Q.of(0));
        }
        for (int i = 0; i < a.size(); i++) {
            for (int j = 0; j < b.size(); j++) {
                made.set(i + j, made.get(i + j).plus(a.get(i).by(b.get(j))));
            }
        }
        return made;
    }

    private static Q at(List<Q> p, Q q) {
        Q result = Q.of(0);
        for (int k = p.size() - 1; k >= 0; k--) {
            result = result.by(q).plus(p.get(k));
        }
        return result;
    }

    private static TreeSet<Q> zeros(List<Q> p) {
        TreeSet<Q> found = new TreeSet<>();
        if (p.size() == 4) {
            throw new IllegalStateException();
        }
        if (p.size() == 2) {
            found.add(p.get(0).negated().by(p.get(1).upsideDown()));
        }
        if (p.size() == 3) {
            Q half = p.get(1).by(Q.of(2).by(p.get(2)).upsideDown());
            Q inner = half.by(half).plus(p.get(0).by(p.get(2).upsideDown()).negated());
            if (inner.sign() >= 0) {
                Q root = inner.root();
                if (root == null) {
                    throw new IllegalStateException();
                }
                found.add(half.negated().plus(root));
                found.add(half.negated().plus(root.negated()));
            }
        }
        return found;
    }

    private static TreeSet<Q> places(Part a, Part b) {
        TreeSet<Q> all = new TreeSet<>(a.places);
        all.addAll(b.places);
        return all;
    }

    /** A fraction of each stretch between places, and the places. */
    private static List<Q> cells(TreeSet<Q> places) {
        List<Q> cells = new ArrayList<>();
        if (places.isEmpty()) {
            cells.add(Q.of(0));
            return cells;
        }
        Q before = null;
        for (Q place : places) {
            Q half = Q.of(2).upsideDown();
            cells.add(before == null ? place.plus(Q.of(-1)) : before.plus(place).by(half));
            cells.add(place);
            before = place;
        }
        cells.add(before.plus(Q.of(1)));
        return cells;
    }

    /** Two ends for each piece. */
    private static List<End> ends(Part part) {
        List<Q> cells = cells(part.places);
        List<End> ends = new ArrayList<>();
        boolean before = false;
        for (int k = 0; k < cells.size(); k++) {
            boolean now = part.member.has(cells.get(k));
            boolean onPlace = k % 2 == 1;
            if (now && !before) {
                ends.add(k == 0 ? new End(null, false) : new End(cells.get(onPlace ? k : k - 1), onPlace));
            }
            if (!now && before) {
                ends.add(new End(cells.get(onPlace ? k : k - 1), !onPlace));
            }
            before = now;
        }
        if (before) {
            ends.add(new End(null, false));
        }
        return ends;
    }
}
