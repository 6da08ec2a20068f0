import java.util.ArrayList;
import java.util.List;
import java.util.TreeMap;

/**
 * A FORM as the document tells it, by other ways than the class: worths are worked out at points that stand
 * for all others, KINDS are classes of the host, bodies are methods with super.
 */
class PlainForm {
    /** A TERM. */
    record Term(int i, int j, int v) { }

    /** A point. */
    record Spot(Frac x, Frac y) implements Comparable<Spot> {
        @Override
        public int compareTo(Spot o) {
            int byX = x.compareTo(o.x);
            return byX != 0 ? byX : y.compareTo(o.y);
        }
    }

    /** An EDGE; first, last: null where there is none. */
    record Edge(Term former, Term latter, int a, int b, int weight, Spot first, Spot last) {
        int kind() {
            return first != null && last != null ? 1 : first != null || last != null ? 2 : 3;
        }
    }

    final TreeMap<Integer, Integer> terms = new TreeMap<>();
    final List<Integer> trace;
    int number;
    private List<Edge> edges;

    PlainForm(List<Integer> trace) {
        this.trace = trace;
    }

    int kind() {
        return 0;
    }

    int lies(int x) {
        trace.add(10);
        return x + terms.size();
    }

    int weighs(int x) {
        trace.add(11);
        return lies(x) * 3;
    }

    int meets(int x) {
        trace.add(12);
        return weighs(x) - lies(x + number);
    }

    void put(int i, int j, int v) {
        terms.put(i * 100 + j, v);
        edges = null;
    }

    void putLeast(int i, int j, int v) {
        terms.merge(i * 100 + j, v, Math::min);
        edges = null;
    }

    void remove(int i, int j) {
        terms.remove(i * 100 + j);
        edges = null;
    }

    boolean has(int i, int j) {
        return i >= 0 && i < 100 && j >= 0 && j < 100 && terms.containsKey(i * 100 + j);
    }

    List<Term> list() {
        List<Term> all = new ArrayList<>();
        terms.forEach((place, v) -> all.add(new Term(place / 100, place % 100, v)));
        return all;
    }

    static Frac worth(Term t, Spot p) {
        return p.x.times(t.i).plus(p.y.times(t.j)).plus(Frac.of(t.v));
    }

    /** The TERMS that are LEAST at a point, by PLACE. */
    List<Term> least(Spot p) {
        List<Term> found = new ArrayList<>();
        Frac best = null;
        for (Term t : list()) {
            Frac w = worth(t, p);
            int by = best == null ? -1 : w.compareTo(best);
            if (by < 0) {
                best = w;
                found.clear();
            }
            if (by <= 0) {
                found.add(t);
            }
        }
        return found;
    }

    List<Edge> edges() {
        if (edges == null) {
            edges = new ArrayList<>();
            List<Term> all = list();
            for (int a = 0; a < all.size(); a++) {
                for (int b = a + 1; b < all.size(); b++) {
                    Edge e = edgeOf(all.get(a), all.get(b));
                    if (e != null) {
                        edges.add(e);
                    }
                }
            }
        }
        return edges;
    }

    /** The point at t on the line on which two TERMS are worth the same. */
    static Spot onLine(Term a, Term b, Frac t) {
        long p = b.i - a.i;
        long q = b.j - a.j;
        long c = a.v - b.v;
        long size = p * p + q * q;
        return new Spot(Frac.of(c * p).plus(t.times(-q)).by(size), Frac.of(c * q).plus(t.times(p)).by(size));
    }

    /** All t at which a TERM cuts the line of two others, rising. */
    List<Frac> cuts(Term a, Term b) {
        java.util.TreeSet<Frac> found = new java.util.TreeSet<>();
        Spot zero = onLine(a, b, Frac.of(0));
        Spot one = onLine(a, b, Frac.of(1));
        for (Term t : list()) {
            Frac atZero = worth(t, zero).plus(worth(a, zero).times(-1));
            Frac rise = worth(t, one).plus(worth(a, one).times(-1)).plus(atZero.times(-1));
            if (rise.above() != 0) {
                found.add(Frac.of(-atZero.above() * rise.below(), atZero.below() * rise.above()));
            }
        }
        return new ArrayList<>(found);
    }

    /** Points between cuts, before the first and behind the last. */
    static List<Frac> between(List<Frac> cuts) {
        List<Frac> found = new ArrayList<>();
        if (cuts.isEmpty()) {
            found.add(Frac.of(0));
            return found;
        }
        found.add(cuts.get(0).plus(Frac.of(-1)));
        for (int k = 1; k < cuts.size(); k++) {
            found.add(cuts.get(k - 1).plus(cuts.get(k)).by(2));
        }
        found.add(cuts.get(cuts.size() - 1).plus(Frac.of(1)));
        return found;
    }

    private Edge edgeOf(Term a, Term b) {
        List<Frac> cuts = cuts(a, b);
        List<Frac> samples = between(cuts);
        int from = -1;
        int to = -1;
        for (int k = 0; k < samples.size(); k++) {
            List<Term> low = least(onLine(a, b, samples.get(k)));
            if (low.get(0).equals(a) && low.get(low.size() - 1).equals(b)) {
                from = from < 0 ? k : from;
                to = k;
            }
        }
        if (from < 0) {
            return null;
        }
        int p = b.i - a.i;
        int q = b.j - a.j;
        int g = java.math.BigInteger.valueOf(p).gcd(java.math.BigInteger.valueOf(q)).intValue();
        Spot first = from == 0 ? null : onLine(a, b, cuts.get(from - 1));
        Spot last = to == samples.size() - 1 ? null : onLine(a, b, cuts.get(to));
        return new Edge(a, b, -q / g, p / g, g, first, last);
    }

    List<Spot> corners() {
        java.util.TreeSet<Spot> found = new java.util.TreeSet<>();
        for (Edge e : edges()) {
            if (e.first != null) {
                found.add(e.first);
            }
            if (e.last != null) {
                found.add(e.last);
            }
        }
        return new ArrayList<>(found);
    }

    /** Twice the area of the least ring: the greatest of all rings of the TERMS by fans about the first one. */
    static int area(List<Term> of) {
        // Each stretch that has all others on its left is walked; the walk goes round once.
        int twice = 0;
        for (Term a : of) {
            for (Term b : of) {
                if (!a.equals(b) && isRim(a, b, of)) {
                    twice += a.i * b.j - b.i * a.j;
                }
            }
        }
        return twice;
    }

    private static boolean isRim(Term a, Term b, List<Term> of) {
        boolean flat = true;
        for (Term c : of) {
            int turn = (b.i - a.i) * (c.j - a.j) - (c.i - a.i) * (b.j - a.j);
            int ahead = (b.i - a.i) * (c.i - a.i) + (b.j - a.j) * (c.j - a.j);
            int whole = (b.i - a.i) * (b.i - a.i) + (b.j - a.j) * (b.j - a.j);
            if (turn < 0 || turn == 0 && (ahead < 0 || ahead > whole)) {
                return false;
            }
            flat &= turn == 0;
        }
        return !flat;
    }

    boolean smooth() {
        for (Edge e : edges()) {
            if (e.weight != 1) {
                return false;
            }
        }
        for (Spot c : corners()) {
            if (area(least(c)) != 1) {
                return false;
            }
        }
        return true;
    }

    /** IDLE: two or three others make, between their PLACES, as little or less. */
    boolean idle(Term t) {
        List<Term> others = list();
        others.remove(t);
        for (Term a : others) {
            for (Term b : others) {
                if (a != b && cross(a, b, t) == 0 && betweenTwo(a, b, t)) {
                    return true;
                }
                for (Term c : others) {
                    if (cross(a, b, c) > 0 && betweenThree(a, b, c, t)) {
                        return true;
                    }
                }
            }
        }
        return false;
    }

    private static int cross(Term a, Term b, Term c) {
        return (b.i - a.i) * (c.j - a.j) - (c.i - a.i) * (b.j - a.j);
    }

    private static boolean betweenTwo(Term a, Term b, Term t) {
        int ahead = (b.i - a.i) * (t.i - a.i) + (b.j - a.j) * (t.j - a.j);
        int whole = (b.i - a.i) * (b.i - a.i) + (b.j - a.j) * (b.j - a.j);
        return ahead > 0 && ahead < whole && a.v * (whole - ahead) + b.v * ahead <= t.v * whole;
    }

    private static boolean betweenThree(Term a, Term b, Term c, Term t) {
        int ofC = cross(a, b, t);
        int ofA = cross(b, c, t);
        int ofB = cross(c, a, t);
        return ofA >= 0 && ofB >= 0 && ofC >= 0
                && a.v * ofA + b.v * ofB + c.v * ofC <= t.v * (ofA + ofB + ofC);
    }

    boolean sameAs(PlainForm o) {
        List<Term> mine = list();
        List<Term> its = o.list();
        mine.removeIf(this::idle);
        its.removeIf(o::idle);
        return mine.equals(its);
    }

    List<Long> proof() {
        List<Long> rows = new ArrayList<>();
        for (Edge e : edges()) {
            rows.addAll(List.of((long) e.a, (long) e.b, (long) e.weight, (long) e.kind()));
        }
        for (Spot c : corners()) {
            rows.addAll(List.of(c.x.above(), c.x.below(), c.y.above(), c.y.below()));
        }
        return rows;
    }

    /** The MEETS with their COUNTS; null: the CURVES do not CROSS WELL. */
    static TreeMap<Spot, Integer> meets(PlainForm one, PlainForm other) {
        if (shareStretch(one, other) || cornerOn(one, other) || cornerOn(other, one)) {
            return null;
        }
        TreeMap<Spot, Integer> found = new TreeMap<>();
        for (Edge e : one.edges()) {
            for (Edge f : other.edges()) {
                int across = e.a * f.b - e.b * f.a;
                if (across != 0) {
                    noteMeet(one, e, other, f, Math.abs(across) * e.weight * f.weight, found);
                }
            }
        }
        return found;
    }

    /** Where the lines of two EDGES cross there is a MEET if the ENDS TERMS of both are LEAST. */
    private static void noteMeet(PlainForm one, Edge e, PlainForm other, Edge f, int count, TreeMap<Spot, Integer> found) {
        Spot at = onLine(e.former, e.latter, Frac.of(0));
        Spot next = onLine(e.former, e.latter, Frac.of(1));
        Frac gap = worth(f.former, at).plus(worth(f.latter, at).times(-1));
        Frac rise = worth(f.former, next).plus(worth(f.latter, next).times(-1)).plus(gap.times(-1));
        Spot p = onLine(e.former, e.latter, Frac.of(-gap.above() * rise.below(), gap.below() * rise.above()));
        List<Term> low = one.least(p);
        List<Term> its = other.least(p);
        if (low.contains(e.former) && low.contains(e.latter) && its.contains(f.former) && its.contains(f.latter)
                && found.put(p, count) != null) {
            throw new IllegalStateException("a MEET on two EDGES");
        }
    }

    private static boolean cornerOn(PlainForm one, PlainForm other) {
        for (Spot c : one.corners()) {
            if (other.least(c).size() > 1) {
                return true;
            }
        }
        return false;
    }

    private static boolean shareStretch(PlainForm one, PlainForm other) {
        for (Edge e : one.edges()) {
            java.util.TreeSet<Frac> cuts = new java.util.TreeSet<>(one.cuts(e.former, e.latter));
            Spot zero = onLine(e.former, e.latter, Frac.of(0));
            Spot next = onLine(e.former, e.latter, Frac.of(1));
            for (Term s : other.list()) {
                for (Term t : other.list()) {
                    Frac gap = worth(s, zero).plus(worth(t, zero).times(-1));
                    Frac rise = worth(s, next).plus(worth(t, next).times(-1)).plus(gap.times(-1));
                    if (rise.above() != 0) {
                        cuts.add(Frac.of(-gap.above() * rise.below(), gap.below() * rise.above()));
                    }
                }
            }
            for (Frac t : between(new ArrayList<>(cuts))) {
                Spot p = onLine(e.former, e.latter, t);
                if (one.least(p).contains(e.former) && one.least(p).contains(e.latter) && other.least(p).size() > 1) {
                    return true;
                }
            }
        }
        return false;
    }
}
