import java.util.ArrayList;
import java.util.Comparator;
import java.util.List;
import java.util.Map;
import java.util.TreeMap;

/**
 * CURVES worked out from the other side: CORNERS are where three TERMS whose PLACES make a triangle are LEAST, and
 * each side of the ring of a PART is an EDGE that has the CORNER. No EDGE is followed to its ends.
 */
public final class DualTest {
    private static final Due due = new Due();
    private static final int RUNS = 60;
    private static long seed = 11;
    private static int mostEdges;
    private static int lines;

    /** The ENDS TERMS of an EDGE. */
    private record Ends(PlainForm.Term former, PlainForm.Term latter) implements Comparable<Ends> {
        @Override
        public int compareTo(Ends o) {
            int byFormer = byPlace(former, o.former);
            return byFormer != 0 ? byFormer : byPlace(latter, o.latter);
        }
    }

    public static void main(String[] args) {
        for (int run = 0; run < RUNS; run++) {
            due.about("run " + run);
            run(run % 5);
        }
        System.out.println("up to " + mostEdges + " EDGES, " + lines + " LINES");
        due.is("large ones and LINES were there", mostEdges >= 30 && lines >= 10 ? 1 : 0, 1);
        due.close();
    }

    private static int r(int n) {
        seed = seed * 6364136223846793005L + 1442695040888963407L;
        return (int) ((seed >>> 33) % n);
    }

    private static int byPlace(PlainForm.Term s, PlainForm.Term t) {
        return s.i() != t.i() ? s.i() - t.i() : s.j() - t.j();
    }

    private static void run(int style) {
        int[] one = terms(style, 5, 1 + r(12));
        int[] other = terms(style, 4, 1 + r(7));
        Twins.Recipe recipe = () -> {
            CornerCurves x = new CornerCurves();
            Scenes.put(x, one);
            Scenes.put(x, other);
            x.sum(0, 1);
            x.power(1, 2);
            x.move(1, 3, -7);
            return x;
        };
        int forms = recipe.make().count(0);
        for (int f = 0; f < forms; f++) {
            ask(recipe, f);
        }
    }

    /** i, j, NUMBER, i, j, NUMBER .. of TERMS, not all at PLACES of their own. */
    private static int[] terms(int style, int wide, int n) {
        int[] told = new int[3 * n];
        for (int k = 0; k < told.length; k += 3) {
            int i = r(wide);
            int j = style == 1 ? 0 : style == 2 ? wide - 1 - i : r(wide);
            told[k] = i;
            told[k + 1] = j;
            told[k + 2] = style == 3 ? r(3) : style == 4 ? (i - 2) * (i - 2) + (j - 2) * (j - 2) + r(2) : r(41) - 20;
        }
        return told;
    }

    private static void ask(Twins.Recipe recipe, int f) {
        Remade x = new Remade(recipe);
        PlainForm form = new PlainForm(new ArrayList<>());
        for (int place = 0; place < 81; place++) {
            int i = place / 9;
            int j = place % 9;
            int v = (int) x.ask(c -> c.number(f, i, j));
            if (v != Scenes.NO_NUMBER) {
                form.put(i, j, v);
            }
        }
        TreeMap<PlainForm.Spot, List<PlainForm.Term>> corners = corners(form);
        TreeMap<Ends, List<PlainForm.Spot>> edges = edges(form, corners);
        askCorners(x, f, corners);
        askEdges(x, f, form, edges);
        askIdle(x, f, form, edges);
        due.is("AREA", x.ask(c -> c.told(f, 4)), area(ring(form.list())));
        mostEdges = Math.max(mostEdges, edges.size());
        lines += corners.isEmpty() ? edges.size() : 0;
    }

    private static int turn(PlainForm.Term a, PlainForm.Term b, PlainForm.Term c) {
        return (b.i() - a.i()) * (c.j() - a.j()) - (c.i() - a.i()) * (b.j() - a.j());
    }

    /** All CORNERS, each with the TERMS that are LEAST there. */
    private static TreeMap<PlainForm.Spot, List<PlainForm.Term>> corners(PlainForm form) {
        TreeMap<PlainForm.Spot, List<PlainForm.Term>> found = new TreeMap<>();
        List<PlainForm.Term> all = form.list();
        for (PlainForm.Term a : all) {
            for (PlainForm.Term b : all) {
                for (PlainForm.Term c : all) {
                    int turn = turn(a, b, c);
                    if (turn > 0) {
                        long byB = a.v() - b.v();
                        long byC = a.v() - c.v();
                        long x = byB * (c.j() - a.j()) - byC * (b.j() - a.j());
                        long y = (b.i() - a.i()) * byC - (c.i() - a.i()) * byB;
                        PlainForm.Spot at = new PlainForm.Spot(Frac.of(x, turn), Frac.of(y, turn));
                        List<PlainForm.Term> least = form.least(at);
                        if (least.contains(a)) {
                            found.put(at, least);
                        }
                    }
                }
            }
        }
        return found;
    }

    /** The least ring, against the clock, without TERMS within its sides; of TERMS in a row: the two at its ends. */
    private static List<PlainForm.Term> ring(List<PlainForm.Term> of) {
        List<PlainForm.Term> sorted = new ArrayList<>(of);
        sorted.sort(DualTest::byPlace);
        if (sorted.size() < 3) {
            return sorted;
        }
        List<PlainForm.Term> ring = half(sorted);
        java.util.Collections.reverse(sorted);
        ring.addAll(half(sorted));
        return ring;
    }

    /** Half a ring, without its last TERM. */
    private static List<PlainForm.Term> half(List<PlainForm.Term> sorted) {
        List<PlainForm.Term> chain = new ArrayList<>();
        for (PlainForm.Term t : sorted) {
            while (chain.size() > 1 && turn(chain.get(chain.size() - 2), chain.get(chain.size() - 1), t) <= 0) {
                chain.remove(chain.size() - 1);
            }
            chain.add(t);
        }
        chain.remove(chain.size() - 1);
        return chain;
    }

    /** Twice the area, triangle by triangle. */
    private static int area(List<PlainForm.Term> ring) {
        int twice = 0;
        for (int k = 2; k < ring.size(); k++) {
            twice += turn(ring.get(0), ring.get(k - 1), ring.get(k));
        }
        return twice;
    }

    /** All EDGES, each with the CORNERS that it has. */
    private static TreeMap<Ends, List<PlainForm.Spot>> edges(PlainForm form,
            TreeMap<PlainForm.Spot, List<PlainForm.Term>> corners) {
        TreeMap<Ends, List<PlainForm.Spot>> found = new TreeMap<>();
        for (Map.Entry<PlainForm.Spot, List<PlainForm.Term>> corner : corners.entrySet()) {
            List<PlainForm.Term> ring = ring(corner.getValue());
            for (int k = 0; k < ring.size(); k++) {
                Ends side = ends(ring.get(k), ring.get((k + 1) % ring.size()));
                found.computeIfAbsent(side, any -> new ArrayList<>()).add(corner.getKey());
            }
        }
        if (corners.isEmpty()) {
            List<PlainForm.Term> least = row(form.list());
            for (int k = 1; k < least.size(); k++) {
                found.put(ends(least.get(k - 1), least.get(k)), new ArrayList<>());
            }
        }
        return found;
    }

    private static Ends ends(PlainForm.Term s, PlainForm.Term t) {
        return byPlace(s, t) < 0 ? new Ends(s, t) : new Ends(t, s);
    }

    /** Of TERMS whose PLACES are in a row: those that are not above a stretch between two others. */
    private static List<PlainForm.Term> row(List<PlainForm.Term> all) {
        List<PlainForm.Term> chain = new ArrayList<>();
        for (PlainForm.Term t : all) {
            while (chain.size() > 1 && isAbove(chain.get(chain.size() - 2), chain.get(chain.size() - 1), t)) {
                chain.remove(chain.size() - 1);
            }
            chain.add(t);
        }
        return chain;
    }

    private static boolean isAbove(PlainForm.Term a, PlainForm.Term b, PlainForm.Term c) {
        int ab = b.i() - a.i() + b.j() - a.j();
        int bc = c.i() - b.i() + c.j() - b.j();
        if (ab == 0 && bc == 0) {
            ab = b.i() - a.i();
            bc = c.i() - b.i();
        }
        // Both are of one sign, as the PLACES go on in their order.
        return (long) (b.v() - a.v()) * Math.abs(bc) >= (long) (c.v() - b.v()) * Math.abs(ab);
    }

    private static void askCorners(Remade x, int f,
            TreeMap<PlainForm.Spot, List<PlainForm.Term>> corners) {
        due.is("CORNERS", x.ask(c -> c.told(f, 3)), corners.size());
        int number = 0;
        for (Map.Entry<PlainForm.Spot, List<PlainForm.Term>> corner : corners.entrySet()) {
            List<PlainForm.Term> ring = ring(corner.getValue());
            long[] want = new long[7];
            System.arraycopy(parts(corner.getKey()), 0, want, 0, 4);
            want[4] = corner.getValue().size();
            want[5] = area(ring);
            want[6] = ring.size();
            int at = number;
            for (int k = 0; k < want.length; k++) {
                int what = k;
                due.is("corner(" + f + ", " + at + ", " + what + ")", x.ask(c -> c.corner(f, at, what)), want[k]);
            }
            number++;
        }
    }

    /** x above, below the line, y; NO without a point. */
    private static long[] parts(PlainForm.Spot p) {
        if (p == null) {
            return new long[] {Scenes.NO, Scenes.NO, Scenes.NO, Scenes.NO};
        }
        return new long[] {p.x().above(), p.x().below(), p.y().above(), p.y().below()};
    }

    private static void askEdges(Remade x, int f, PlainForm form, TreeMap<Ends, List<PlainForm.Spot>> edges) {
        due.is("EDGES", x.ask(c -> c.told(f, 2)), edges.size());
        int[] kinds = new int[4];
        int number = 0;
        for (Map.Entry<Ends, List<PlainForm.Spot>> edge : edges.entrySet()) {
            askEdge(x, f, form, number, edge.getKey(), edge.getValue());
            kinds[3 - edge.getValue().size()]++;
            number++;
        }
        for (int k = 1; k <= 3; k++) {
            int kind = k;
            due.is("EDGES of KIND " + kind, x.ask(c -> c.told(f, 6 + kind)), kinds[kind]);
        }
    }

    private static void askEdge(Remade x, int f, PlainForm form, int e, Ends ends, List<PlainForm.Spot> points) {
        PlainForm.Term s = ends.former();
        PlainForm.Term t = ends.latter();
        int p = t.i() - s.i();
        int q = t.j() - s.j();
        int g = java.math.BigInteger.valueOf(p).gcd(java.math.BigInteger.valueOf(q)).intValue();
        int[] want = {-q / g, p / g, g, 3 - points.size(), s.i(), s.j(), t.i(), t.j()};
        for (int k = 0; k < want.length; k++) {
            int what = k;
            due.is("edge(" + f + ", " + e + ", " + what + ")", x.ask(c -> c.edge(f, e, what)), want[k]);
        }
        PlainForm.Spot[] both = firstAndLast(form, ends, points);
        for (int w = 0; w < 2; w++) {
            long[] parts = parts(both[w]);
            for (int k = 0; k < 4; k++) {
                int way = w;
                int what = k;
                due.is("end(" + f + ", " + e + ", " + way + ", " + what + ")", x.ask(c -> c.end(f, e, way, what)), parts[k]);
            }
        }
    }

    /** From which CORNER one goes by (-q, p), and to which. */
    private static PlainForm.Spot[] firstAndLast(PlainForm form, Ends ends, List<PlainForm.Spot> points) {
        int p = ends.latter().i() - ends.former().i();
        int q = ends.latter().j() - ends.former().j();
        if (points.size() == 2) {
            List<PlainForm.Spot> sorted = new ArrayList<>(points);
            sorted.sort(Comparator.comparing(s -> s.y().times(p).plus(s.x().times(-q))));
            return new PlainForm.Spot[] {sorted.get(0), sorted.get(1)};
        }
        if (points.isEmpty()) {
            return new PlainForm.Spot[] {null, null};
        }
        // A RAY goes on for ever: far on by the DIRECTION both are LEAST, if the CORNER is the first point.
        PlainForm.Spot at = points.get(0);
        PlainForm.Spot far = new PlainForm.Spot(at.x().plus(Frac.of(-1000L * q)), at.y().plus(Frac.of(1000L * p)));
        List<PlainForm.Term> there = form.least(far);
        boolean isFirst = there.contains(ends.former()) && there.contains(ends.latter());
        return isFirst ? new PlainForm.Spot[] {at, null} : new PlainForm.Spot[] {null, at};
    }

    private static void askIdle(Remade x, int f, PlainForm form, TreeMap<Ends, List<PlainForm.Spot>> edges) {
        int count = 0;
        for (PlainForm.Term t : form.list()) {
            boolean idle = form.list().size() > 1
                    && edges.keySet().stream().noneMatch(e -> e.former().equals(t) || e.latter().equals(t));
            count += idle ? 1 : 0;
            due.is("idle(" + f + ", " + t.i() + ", " + t.j() + ")", x.ask(c -> c.idle(f, t.i(), t.j())), idle ? 1 : 0);
        }
        int all = count;
        due.is("IDLE", x.ask(c -> c.told(f, 6)), all);
    }
}
