import java.util.ArrayList;
import java.util.List;

/** Large FORMS: SUMS of SUMS, told to the class and to PlainModel; their proofs and MEETS are the same. */
public final class SumsTest {
    private static final Due due = new Due();
    private static long seed = 5;
    private static int mostEdges;
    private static int mostMeets;

    public static void main(String[] args) {
        int runs = args.length > 0 ? Integer.parseInt(args[0]) : 40;
        due.about("the densest");
        dense();
        for (int run = 0; run < runs; run++) {
            due.about("sums " + run);
            sums(run % 4);
        }
        System.out.println("up to " + mostEdges + " EDGES, " + mostMeets + " MEETS");
        due.is("large ones were there", mostEdges >= 30 && mostMeets >= 10 ? 1 : 0, 1);
        due.close();
    }

    /** The FORM with the most EDGES that was found, as the model tells it. */
    private static void dense() {
        CornerCurves x = Scenes.dense();
        PlainModel y = new PlainModel();
        for (int f = 0; f < 2; f++) {
            y.form();
            for (int place = 0; place < 25; place++) {
                int v = x.number(f, place / 5, place % 5);
                if (v != Scenes.NO_NUMBER) {
                    y.term(f, place / 5, place % 5, v);
                }
            }
        }
        y.sum(0, 1);
        int n = x.write(2);
        due.is("write", n, y.write(2));
        for (int k = 0; k < n; k++) {
            due.is("row(" + k + ")", x.row(k), y.row(k));
        }
        for (int what = 0; what < 10; what++) {
            due.is("told(2, " + what + ")", x.told(2, what), y.told(2, what));
        }
        mostEdges = Math.max(mostEdges, x.told(2, 2));
    }

    private static int r(int n) {
        seed = seed * 6364136223846793005L + 1442695040888963407L;
        return (int) ((seed >>> 33) % n);
    }

    private static void sums(int style) {
        CornerCurves x = new CornerCurves();
        PlainModel y = new PlainModel();
        for (int f = 0; f < 5; f++) {
            tell(x, y, f, style);
        }
        List<int[]> pairs = new ArrayList<>(List.of(new int[] {0, 1}, new int[] {2, 3}, new int[] {5, 4}, new int[] {6, 4},
                new int[] {5, 0}));
        for (int[] p : pairs) {
            due.is("sum", x.sum(p[0], p[1]), y.sum(p[0], p[1]));
        }
        for (int f = 0; f < x.count(0); f++) {
            int n = x.write(f);
            due.is("write", n, y.write(f));
            for (int k = 0; k < n; k++) {
                due.is("row(" + k + ") of " + f, x.row(k), y.row(k));
            }
            due.is("SMOOTH", x.told(f, 5), y.told(f, 5));
            due.is("IDLE", x.told(f, 6), y.told(f, 6));
            mostEdges = Math.max(mostEdges, x.told(f, 2));
        }
        int last = x.count(0) - 1;
        meets(x, y, last, 4);
        meets(x, y, last, 3);
        meets(x, y, last, last - 1);
    }

    private static void tell(CornerCurves x, PlainModel y, int f, int style) {
        due.is("form", x.form(), y.form());
        int wide = f == 4 ? 2 : 3;
        for (int k = 0; k < (f == 4 ? 3 : 6); k++) {
            int i = style == 1 && f % 2 == 0 ? 0 : r(wide);
            int j = style == 1 && f % 2 == 1 ? 0 : r(wide);
            int v = style == 2 ? r(41) - 20 : Math.min(20, 3 * (i * i + j * j) + i * j + r(6) - 3);
            due.is("term", x.term(f, i, j, v), y.term(f, i, j, v));
        }
    }

    private static void meets(CornerCurves x, PlainModel y, int a, int b) {
        int n = x.meets(a, b);
        due.is("meets", n, y.meets(a, b));
        int made = 0;
        for (int i = 0; i < n; i++) {
            for (int what = 0; what < 5; what++) {
                due.is("meet(" + a + ", " + b + ", " + i + ", " + what + ")", x.meet(a, b, i, what), y.meet(a, b, i, what));
            }
            made += (int) x.meet(a, b, i, 4);
        }
        int amount = x.amount(a, b);
        if (n >= 0 && amount >= 0) {
            due.is("the COUNTS together", made, amount);
        }
        mostMeets = Math.max(mostMeets, n);
    }
}
