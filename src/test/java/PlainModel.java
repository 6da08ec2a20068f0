import java.util.ArrayList;
import java.util.List;
import java.util.Map;
import java.util.TreeMap;

/** The whole document by other ways than the class: the host's casts and exceptions, lists and trees. */
final class PlainModel {
    private static final int NONE = -1, BAD = -2, STATE = -3, FULL = -4;
    private static final int NO_NUMBER = -100000;
    private static final long NO = -4611686018427387904L;
    private final List<PlainForm> forms = new ArrayList<>();
    private final List<Integer> trace = new ArrayList<>();
    private final Object[] sheets = new Object[4];
    private List<Long> rows = new ArrayList<>();

    private boolean no(int form) {
        return form < 0 || form >= forms.size();
    }

    private static boolean out(int x, int least, int greatest) {
        return x < least || x > greatest;
    }

    private int keep(PlainForm f) {
        f.number = forms.size();
        forms.add(f);
        return f.number;
    }

    int form() {
        return forms.size() == 10 ? FULL : keep(new PlainForm(trace));
    }

    int term(int form, int i, int j, int v) {
        if (no(form) || out(i, 0, 4) || out(j, 0, 4) || out(v, -20, 20)) {
            return BAD;
        }
        PlainForm f = forms.get(form);
        if (f.kind() != 0) {
            return STATE;
        }
        if (!f.has(i, j) && f.terms.size() == 12) {
            return FULL;
        }
        f.put(i, j, v);
        return f.terms.size();
    }

    int take(int form, int i, int j) {
        if (no(form) || !forms.get(form).has(i, j)) {
            return BAD;
        }
        PlainForm f = forms.get(form);
        if (f.kind() != 0) {
            return STATE;
        }
        f.remove(i, j);
        return f.terms.size();
    }

    private static PlainForm addUp(PlainForm a, PlainForm b, PlainForm into) {
        for (PlainForm.Term s : a.list()) {
            for (PlainForm.Term t : b.list()) {
                into.putLeast(s.i() + t.i(), s.j() + t.j(), s.v() + t.v());
            }
        }
        return into;
    }

    private int keepIfFits(PlainForm f) {
        if (forms.size() == 10 || f.terms.size() > 40) {
            return FULL;
        }
        for (PlainForm.Term t : f.list()) {
            if (t.i() > 8 || t.j() > 8 || out(t.v(), -200, 200)) {
                return FULL;
            }
        }
        return keep(f);
    }

    int sum(int first, int second) {
        if (no(first) || no(second)) {
            return BAD;
        }
        return keepIfFits(addUp(forms.get(first), forms.get(second), new PlainSum(trace)));
    }

    int power(int form, int k) {
        if (no(form) || out(k, 1, 4)) {
            return BAD;
        }
        PlainForm made = forms.get(form);
        for (int step = 1; step < k; step++) {
            made = addUp(forms.get(form), made, new PlainForm(trace));
        }
        PlainForm power = new PlainPower(trace);
        power.terms.putAll(made.terms);
        return keepIfFits(power);
    }

    int move(int form, int u, int v) {
        if (no(form) || out(u, -10, 10) || out(v, -10, 10)) {
            return BAD;
        }
        PlainForm moved = new PlainSum(trace);
        for (PlainForm.Term t : forms.get(form).list()) {
            moved.put(t.i(), t.j(), t.v() + t.i() * u + t.j() * v);
        }
        return keepIfFits(moved);
    }

    int hide(int sheet, int sort, int s, int q) {
        if (q != 2 && q != 3 && q != 5 && q != 7 || out(sheet, 0, 3) || out(sort, 0, 2)) {
            return BAD;
        }
        PlainForm f = new PlainHidden(trace);
        try {
            byte[] bytes = sort == 0 ? (byte[]) sheets[sheet] : null;
            int[] ints = sort == 1 ? (int[]) sheets[sheet] : null;
            long[] longs = sort == 2 ? (long[]) sheets[sheet] : null;
            for (int k = 0; k < 9; k++) {
                long v = sort == 0 ? bytes[s + k] : sort == 1 ? ints[s + k] : longs[s + k];
                int times = 0;
                for (long left = v; left != 0 && left % q == 0; left /= q) {
                    times++;
                }
                if (v != 0) {
                    f.put(k / 3, k % 3, times);
                }
            }
        } catch (ClassCastException e) {
            return -13;
        } catch (NullPointerException e) {
            return -11;
        } catch (ArrayIndexOutOfBoundsException e) {
            return -12;
        }
        return keepIfFits(f);
    }

    int drop() {
        if (forms.isEmpty()) {
            return STATE;
        }
        forms.remove(forms.size() - 1);
        return forms.size();
    }

    int told(int form, int what) {
        if (no(form)) {
            return BAD;
        }
        PlainForm f = forms.get(form);
        return switch (what) {
            case 0 -> f.kind();
            case 1 -> f.terms.size();
            case 2 -> f.edges().size();
            case 3 -> f.corners().size();
            case 4 -> PlainForm.area(f.list());
            case 5 -> f.smooth() ? 1 : 0;
            case 6 -> (int) f.list().stream().filter(f::idle).count();
            case 7, 8, 9 -> (int) f.edges().stream().filter(e -> e.kind() == what - 6).count();
            default -> BAD;
        };
    }

    int number(int form, int i, int j) {
        return no(form) || !forms.get(form).has(i, j) ? NO_NUMBER : forms.get(form).terms.get(i * 100 + j);
    }

    private boolean noPoint(int form, int a, int b, int q) {
        return no(form) || forms.get(form).terms.isEmpty() || out(a, -1000, 1000) || out(b, -1000, 1000) || out(q, 1, 100);
    }

    long worth(int form, int a, int b, int q, int what) {
        if (noPoint(form, a, b, q) || out(what, 0, 1)) {
            return NO;
        }
        PlainForm.Spot p = new PlainForm.Spot(Frac.of(a, q), Frac.of(b, q));
        Frac w = PlainForm.worth(forms.get(form).least(p).get(0), p);
        return what == 0 ? w.above() : w.below();
    }

    int leastAt(int form, int a, int b, int q) {
        return noPoint(form, a, b, q) ? BAD
                : forms.get(form).least(new PlainForm.Spot(Frac.of(a, q), Frac.of(b, q))).size();
    }

    int idle(int form, int i, int j) {
        if (no(form) || !forms.get(form).has(i, j)) {
            return BAD;
        }
        PlainForm f = forms.get(form);
        return f.idle(new PlainForm.Term(i, j, f.terms.get(i * 100 + j))) ? 1 : 0;
    }

    int same(int a, int b) {
        return no(a) || no(b) ? BAD : forms.get(a).sameAs(forms.get(b)) ? 1 : 0;
    }

    int edge(int form, int e, int what) {
        if (no(form) || out(e, 0, forms.get(form).edges().size() - 1) || out(what, 0, 7)) {
            return NO_NUMBER;
        }
        PlainForm.Edge edge = forms.get(form).edges().get(e);
        return new int[] {edge.a(), edge.b(), edge.weight(), edge.kind(), edge.former().i(), edge.former().j(),
            edge.latter().i(), edge.latter().j()}[what];
    }

    private static long part(PlainForm.Spot p, int what) {
        return new long[] {p.x().above(), p.x().below(), p.y().above(), p.y().below()}[what];
    }

    long end(int form, int e, int way, int what) {
        if (no(form) || out(e, 0, forms.get(form).edges().size() - 1) || out(way, 0, 1) || out(what, 0, 3)) {
            return NO;
        }
        PlainForm.Edge edge = forms.get(form).edges().get(e);
        PlainForm.Spot p = way == 0 ? edge.first() : edge.last();
        return p == null ? NO : part(p, what);
    }

    long corner(int form, int c, int what) {
        if (no(form) || out(c, 0, forms.get(form).corners().size() - 1) || out(what, 0, 6)) {
            return NO;
        }
        PlainForm f = forms.get(form);
        PlainForm.Spot p = f.corners().get(c);
        return switch (what) {
            case 4 -> f.least(p).size();
            case 5 -> PlainForm.area(f.least(p));
            case 6 -> f.edges().stream().filter(e -> p.equals(e.first()) || p.equals(e.last())).count();
            default -> part(p, what);
        };
    }

    int amount(int a, int b) {
        if (no(a) || no(b)) {
            return BAD;
        }
        PlainForm both = addUp(forms.get(a), forms.get(b), new PlainForm(trace));
        if (both.terms.isEmpty()) {
            return STATE;
        }
        for (PlainForm.Term t : both.list()) {
            if (t.i() > 8 || t.j() > 8) {
                return STATE;
            }
        }
        return (PlainForm.area(both.list()) - PlainForm.area(forms.get(a).list())
                - PlainForm.area(forms.get(b).list())) / 2;
    }

    int meets(int a, int b) {
        if (no(a) || no(b)) {
            return BAD;
        }
        TreeMap<PlainForm.Spot, Integer> all = PlainForm.meets(forms.get(a), forms.get(b));
        return all == null ? STATE : all.size();
    }

    long meet(int a, int b, int i, int what) {
        if (no(a) || no(b) || out(what, 0, 4)) {
            return NO;
        }
        TreeMap<PlainForm.Spot, Integer> all = PlainForm.meets(forms.get(a), forms.get(b));
        if (all == null || out(i, 0, all.size() - 1)) {
            return NO;
        }
        Map.Entry<PlainForm.Spot, Integer> meet = new ArrayList<>(all.entrySet()).get(i);
        return what == 4 ? meet.getValue() : part(meet.getKey(), what);
    }

    long root(int form, int i, int what) {
        if (no(form) || out(what, 0, 2) || forms.get(form).list().stream().anyMatch(t -> t.j() != 0)) {
            return NO;
        }
        TreeMap<Frac, Integer> roots = new TreeMap<>();
        for (PlainForm.Edge e : forms.get(form).edges()) {
            roots.put(PlainForm.onLine(e.former(), e.latter(), Frac.of(0)).x(), e.weight());
        }
        if (out(i, 0, roots.size() - 1)) {
            return NO;
        }
        Map.Entry<Frac, Integer> root = new ArrayList<>(roots.entrySet()).get(i);
        return what == 0 ? root.getKey().above() : what == 1 ? root.getKey().below() : root.getValue();
    }

    int write(int form) {
        if (no(form)) {
            return BAD;
        }
        rows = new ArrayList<>(forms.get(form).proof());
        return rows.size();
    }

    long row(int i) {
        return out(i, 0, rows.size() - 1) ? NO : rows.get(i);
    }

    int forge(int i, long v) {
        if (out(i, 0, rows.size() - 1)) {
            return BAD;
        }
        rows.set(i, v);
        return 1;
    }

    int check(int form) {
        if (no(form)) {
            return BAD;
        }
        List<Long> want = forms.get(form).proof();
        int k = 0;
        while (k < want.size() && k < rows.size() && want.get(k).equals(rows.get(k))) {
            k++;
        }
        return k == want.size() && k == rows.size() ? NONE : k;
    }

    int act(int form, int act, int x) {
        trace.clear();
        if (no(form) || out(act, 0, 2)) {
            return 0;
        }
        PlainForm f = forms.get(form);
        return act == 0 ? f.lies(x) : act == 1 ? f.weighs(x) : f.meets(x);
    }

    int trace(int i) {
        return out(i, 0, Math.min(40, trace.size()) - 1) ? NONE : trace.get(i);
    }

    int count(int what) {
        return what == 0 ? forms.size() : what == 1 ? rows.size() : what == 2 ? trace.size() : BAD;
    }

    int sheet(int sheet, int sort, int n) {
        if (out(sheet, 0, 3) || out(sort, -1, 2) || sort >= 0 && n > 40) {
            return BAD;
        }
        try {
            sheets[sheet] = sort < 0 ? null : sort == 0 ? new byte[n] : sort == 1 ? new int[n] : new long[n];
        } catch (NegativeArraySizeException e) {
            return -14;
        }
        return 1;
    }

    int cell(int sheet, int i, int v) {
        if (out(sheet, 0, 3)) {
            return BAD;
        }
        try {
            if (sheets[sheet] instanceof byte[] bytes) {
                bytes[i] = (byte) v;
            } else if (sheets[sheet] instanceof int[] ints) {
                ints[i] = v;
            } else {
                ((long[]) sheets[sheet])[i] = v;
            }
        } catch (NullPointerException e) {
            return -11;
        } catch (ArrayIndexOutOfBoundsException e) {
            return -12;
        }
        return 1;
    }

    int copy(int sheet, int i, int other, int j, int n) {
        if (out(sheet, 0, 3) || out(other, 0, 3)) {
            return BAD;
        }
        try {
            System.arraycopy(sheets[sheet], i, sheets[other], j, n);
        } catch (NullPointerException e) {
            return -11;
        } catch (ArrayStoreException e) {
            return -13;
        } catch (IndexOutOfBoundsException e) {
            return -12;
        }
        return n;
    }

    int taken(int form, int k) {
        if (out(k, 0, 3)) {
            return BAD;
        }
        if (no(form)) {
            return -11;
        }
        PlainForm f = forms.get(form);
        try {
            return k == 0 ? f.terms.size() : k == 1 ? ((PlainSum) f).terms.size()
                    : k == 2 ? ((PlainPower) f).terms.size() : ((PlainHidden) f).terms.size();
        } catch (ClassCastException e) {
            return -13;
        }
    }
}
