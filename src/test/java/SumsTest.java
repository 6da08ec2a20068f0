/** Large FORMS: SUMS of SUMS, told to the class and to PlainModel; their proofs and MEETS are the same. */
public final class SumsTest {
    private static final Due due = new Due();
    private static final int[][] PAIRS = {{0, 1}, {2, 3}, {5, 4}, {6, 4}, {5, 0}};
    private static final int TOLD = 5;
    private static long seed = 5;
    private static int mostEdges;
    private static int mostMeets;

    public static void main(String[] args) {
        int runs = args.length > 0 ? Integer.parseInt(args[0]) : 40;
        due.about("the densest");
        dense();
        for (int run = 0; run < runs; run++) {
            due.about("sums " + run);
            sums(run % 4);
        }
        System.out.println("up to " + mostEdges + " EDGES, " + mostMeets + " MEETS");
        due.is("large ones were there", mostEdges >= 30 && mostMeets >= 10 ? 1 : 0, 1);
        due.close();
    }

    /** The FORM with the most EDGES that was found, as the model tells it. */
    private static void dense() {
        CornerCurves x = Scenes.dense();
        PlainModel y = new PlainModel();
        for (int f = 0; f < 2; f++) {
            y.form();
            for (int place = 0; place < 25; place++) {
                int v = x.number(f, place / 5, place % 5);
                if (v != Scenes.NO_NUMBER) {
                    y.term(f, place / 5, place % 5, v);
                }
            }
        }
        y.sum(0, 1);
        proof(Scenes::dense, y, 2);
    }

    private static int r(int n) {
        seed = seed * 6364136223846793005L + 1442695040888963407L;
        return (int) ((seed >>> 33) % n);
    }

    private static void sums(int style) {
        int[][] forms = new int[TOLD][];
        for (int f = 0; f < TOLD; f++) {
            forms[f] = terms(f, style);
        }
        Twins.Recipe recipe = () -> made(forms);
        CornerCurves x = new CornerCurves();
        PlainModel y = new PlainModel();
        for (int f = 0; f < TOLD; f++) {
            due.is("form", x.form(), y.form());
            for (int k = 0; k < forms[f].length; k += 3) {
                int i = forms[f][k];
                int j = forms[f][k + 1];
                int v = forms[f][k + 2];
                due.is("term", x.term(f, i, j, v), y.term(f, i, j, v));
            }
        }
        for (int[] p : PAIRS) {
            due.is("sum", x.sum(p[0], p[1]), y.sum(p[0], p[1]));
        }
        for (int f = 0; f < y.count(0); f++) {
            proof(recipe, y, f);
        }
        int last = y.count(0) - 1;
        meets(recipe, y, last, 4);
        meets(recipe, y, last, 3);
        meets(recipe, y, last, last - 1);
    }

    private static CornerCurves made(int[][] forms) {
        CornerCurves x = new CornerCurves();
        for (int[] told : forms) {
            Scenes.put(x, told);
        }
        for (int[] p : PAIRS) {
            x.sum(p[0], p[1]);
        }
        return x;
    }

    /** TERMS for FORM f: i, j, NUMBER, i, j, NUMBER .. */
    private static int[] terms(int f, int style) {
        int wide = f == 4 ? 2 : 3;
        int[] told = new int[f == 4 ? 9 : 18];
        for (int k = 0; k < told.length; k += 3) {
            int i = style == 1 && f % 2 == 0 ? 0 : r(wide);
            int j = style == 1 && f % 2 == 1 ? 0 : r(wide);
            told[k] = i;
            told[k + 1] = j;
            told[k + 2] = style == 2 ? r(41) - 20 : Math.min(20, 3 * (i * i + j * j) + i * j + r(6) - 3);
        }
        return told;
    }

    private static void proof(Twins.Recipe recipe, PlainModel y, int f) {
        Remade x = new Remade(() -> {
            CornerCurves written = recipe.make();
            written.write(f);
            return written;
        });
        int n = y.write(f);
        due.is("numbers of THE ROWS of " + f, x.ask(c -> c.count(1)), n);
        for (int k = 0; k < n; k++) {
            int at = k;
            due.is("row(" + k + ") of " + f, x.ask(c -> c.row(at)), y.row(k));
        }
        due.is("check(" + f + ")", x.ask(c -> c.check(f)), Scenes.NONE);
        for (int k = 0; k < 10; k++) {
            int what = k;
            due.is("told(" + f + ", " + what + ")", x.ask(c -> c.told(f, what)), y.told(f, what));
        }
        mostEdges = Math.max(mostEdges, y.told(f, 2));
    }

    private static void meets(Twins.Recipe recipe, PlainModel y, int a, int b) {
        Remade x = new Remade(recipe);
        int n = (int) x.ask(c -> c.meets(a, b));
        due.is("meets", n, y.meets(a, b));
        int made = 0;
        for (int k = 0; k < n; k++) {
            int i = k;
            for (int part = 0; part < 5; part++) {
                int what = part;
                due.is("meet(" + a + ", " + b + ", " + i + ", " + what + ")", x.ask(c -> c.meet(a, b, i, what)),
                        y.meet(a, b, i, what));
            }
            made += (int) x.ask(c -> c.meet(a, b, i, 4));
        }
        int amount = (int) x.ask(c -> c.amount(a, b));
        due.is("amount(" + a + ", " + b + ")", amount, y.amount(a, b));
        if (n >= 0 && amount >= 0) {
            due.is("the COUNTS together", made, amount);
        }
        mostMeets = Math.max(mostMeets, n);
    }
}
