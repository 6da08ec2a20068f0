import java.util.Arrays;
import java.util.TreeMap;

/** Long runs of calls, ordinary and wild, on the class and on PlainModel: both answer the same. */
public final class RunsTest {
    private static final String[] NAMES = {"form", "term", "take", "sum", "power", "move", "hide", "drop", "told",
        "number", "worth", "leastAt", "idle", "same", "edge", "end", "corner", "amount", "meets", "meet", "root",
        "write", "row", "forge", "check", "act", "trace", "count", "sheet", "cell", "copy", "taken"};
    private static final int CALLS = 512;
    private final Due due;
    private final TreeMap<String, Integer> answers;
    private final CornerCurves x = new CornerCurves();
    private final PlainModel y = new PlainModel();
    private long seed;
    private int style;
    private int left = CALLS;

    private RunsTest(Due due, TreeMap<String, Integer> answers, long seed) {
        this.due = due;
        this.answers = answers;
        this.seed = seed * 7919 + 13;
    }

    public static void main(String[] args) {
        int runs = args.length > 0 ? Integer.parseInt(args[0]) : 60;
        int from = args.length > 1 ? Integer.parseInt(args[1]) : 1;
        Due due = new Due();
        TreeMap<String, Integer> answers = new TreeMap<>();
        for (int run = from; run < from + runs; run++) {
            due.about("run " + run);
            new RunsTest(due, answers, run).run();
        }
        for (String name : NAMES) {
            if (answers.getOrDefault(name, 0) == 0) {
                due.fail(name + " never answered but a refusal");
            }
        }
        due.close();
    }

    private int r(int n) {
        seed = seed * 6364136223846793005L + 1442695040888963407L;
        return (int) ((seed >>> 33) % n);
    }

    /** A number from least to greatest, rarely one beside it or far off. */
    private int near(int least, int greatest) {
        int dice = r(60);
        if (dice == 0) {
            return least - 1;
        }
        if (dice == 1) {
            return greatest + 1;
        }
        if (dice == 2) {
            return new int[] {Integer.MIN_VALUE, Integer.MAX_VALUE, -1000000, 1000000}[r(4)];
        }
        return least > greatest ? least : least + r(greatest - least + 1);
    }

    private int aForm() {
        return near(0, Math.max(0, y.count(0) - 1));
    }

    private void run() {
        style = r(6);
        while (left > 0) {
            int dice = r(100);
            if (dice < 12) {
                tellForm();
            } else {
                String name = NAMES[r(NAMES.length)];
                call(name, argumentsOf(name));
            }
        }
    }

    private void tellForm() {
        if (y.count(0) > 7) {
            call("drop", new long[0]);
            call("drop", new long[0]);
        }
        call("form", new long[0]);
        int f = y.count(0) - 1;
        int terms = 1 + r(12);
        for (int k = 0; k < terms; k++) {
            int i = r(5);
            int j = style == 1 ? 0 : style == 2 ? i : r(5);
            call("term", new long[] {f, i, j, numberAt(i, j)});
        }
    }

    private int numberAt(int i, int j) {
        switch (style) {
            case 3: return Math.min(20, (i * i + i * j + j * j) / 2 + r(2));
            case 4: return r(3);
            case 5: return Math.min(20, i * (i - 1) / 2 + j * (j - 1) / 2 + r(4));
            default: return r(41) - 20;
        }
    }

    private long[] argumentsOf(String name) {
        switch (name) {
            case "form": case "drop": return new long[0];
            case "term": return new long[] {aForm(), near(0, 4), near(0, 4), near(-20, 20)};
            case "take": case "number": case "idle": return new long[] {aForm(), near(0, 4), near(0, 4)};
            case "sum": case "same": case "amount": case "meets": return new long[] {aForm(), aForm()};
            case "power": return new long[] {aForm(), near(1, 4)};
            case "move": return new long[] {aForm(), near(-10, 10), near(-10, 10)};
            case "hide": return new long[] {near(0, 3), near(0, 2), near(0, 6), new int[] {2, 3, 5, 7, 4}[r(5)]};
            case "told": return new long[] {aForm(), near(0, 9)};
            case "worth": return new long[] {aForm(), coordinate(), coordinate(), below(), near(0, 1)};
            case "leastAt": return new long[] {aForm(), coordinate(), coordinate(), below()};
            case "edge": return new long[] {aForm(), near(0, 12), near(0, 7)};
            case "end": return new long[] {aForm(), near(0, 12), near(0, 1), near(0, 3)};
            case "corner": return new long[] {aForm(), near(0, 6), near(0, 6)};
            case "meet": return new long[] {aForm(), aForm(), near(0, 5), near(0, 4)};
            case "root": return new long[] {aForm(), near(0, 2), near(0, 2)};
            case "write": case "check": return new long[] {aForm()};
            case "row": return new long[] {near(0, Math.max(0, y.count(1) - 1))};
            case "forge": return forging();
            case "act": return new long[] {aForm(), near(0, 2), near(-100, 100)};
            case "trace": return new long[] {near(0, 13)};
            case "count": return new long[] {near(0, 2)};
            case "sheet": return new long[] {near(0, 3), near(-1, 2), near(0, 40)};
            case "cell": return new long[] {near(0, 3), near(0, 20), near(-500, 500)};
            case "copy": return new long[] {near(0, 3), near(0, 20), near(0, 3), near(0, 20), near(0, 12)};
            default: return new long[] {aForm(), near(0, 3)};
        }
    }

    private long[] forging() {
        int i = near(0, Math.max(0, y.count(1) - 1));
        return new long[] {i, r(2) == 0 ? y.row(i) : near(-5, 5)};
    }

    private int coordinate() {
        return r(3) == 0 ? near(-1000, 1000) : near(-30, 30);
    }

    private int below() {
        return r(2) == 0 ? near(1, 3) : near(1, 100);
    }

    /** Asks both, as long as the object is used. */
    private void call(String name, long[] a) {
        if (left == 0) {
            return;
        }
        left--;
        int[] n = new int[5];
        for (int k = 0; k < a.length; k++) {
            n[k] = (int) a[k];
        }
        long got = ofClass(name, n, a.length > 1 ? a[1] : 0);
        long want = ofModel(name, n, a.length > 1 ? a[1] : 0);
        due.is(name + Arrays.toString(a), got, want);
        if (want > -2) {
            answers.merge(name, 1, Integer::sum);
        }
    }

    private long ofClass(String name, int[] n, long v) {
        switch (name) {
            case "form": return x.form();
            case "term": return x.term(n[0], n[1], n[2], n[3]);
            case "take": return x.take(n[0], n[1], n[2]);
            case "sum": return x.sum(n[0], n[1]);
            case "power": return x.power(n[0], n[1]);
            case "move": return x.move(n[0], n[1], n[2]);
            case "hide": return x.hide(n[0], n[1], n[2], n[3]);
            case "drop": return x.drop();
            case "told": return x.told(n[0], n[1]);
            case "number": return x.number(n[0], n[1], n[2]);
            case "worth": return x.worth(n[0], n[1], n[2], n[3], n[4]);
            case "leastAt": return x.leastAt(n[0], n[1], n[2], n[3]);
            case "idle": return x.idle(n[0], n[1], n[2]);
            case "same": return x.same(n[0], n[1]);
            case "edge": return x.edge(n[0], n[1], n[2]);
            case "end": return x.end(n[0], n[1], n[2], n[3]);
            case "corner": return x.corner(n[0], n[1], n[2]);
            case "amount": return x.amount(n[0], n[1]);
            case "meets": return x.meets(n[0], n[1]);
            case "meet": return x.meet(n[0], n[1], n[2], n[3]);
            case "root": return x.root(n[0], n[1], n[2]);
            case "write": return x.write(n[0]);
            case "row": return x.row(n[0]);
            case "forge": return x.forge(n[0], v);
            case "check": return x.check(n[0]);
            case "act": return x.act(n[0], n[1], n[2]);
            case "trace": return x.trace(n[0]);
            case "count": return x.count(n[0]);
            case "sheet": return x.sheet(n[0], n[1], n[2]);
            case "cell": return x.cell(n[0], n[1], n[2]);
            case "copy": return x.copy(n[0], n[1], n[2], n[3], n[4]);
            default: return x.taken(n[0], n[1]);
        }
    }

    private long ofModel(String name, int[] n, long v) {
        switch (name) {
            case "form": return y.form();
            case "term": return y.term(n[0], n[1], n[2], n[3]);
            case "take": return y.take(n[0], n[1], n[2]);
            case "sum": return y.sum(n[0], n[1]);
            case "power": return y.power(n[0], n[1]);
            case "move": return y.move(n[0], n[1], n[2]);
            case "hide": return y.hide(n[0], n[1], n[2], n[3]);
            case "drop": return y.drop();
            case "told": return y.told(n[0], n[1]);
            case "number": return y.number(n[0], n[1], n[2]);
            case "worth": return y.worth(n[0], n[1], n[2], n[3], n[4]);
            case "leastAt": return y.leastAt(n[0], n[1], n[2], n[3]);
            case "idle": return y.idle(n[0], n[1], n[2]);
            case "same": return y.same(n[0], n[1]);
            case "edge": return y.edge(n[0], n[1], n[2]);
            case "end": return y.end(n[0], n[1], n[2], n[3]);
            case "corner": return y.corner(n[0], n[1], n[2]);
            case "amount": return y.amount(n[0], n[1]);
            case "meets": return y.meets(n[0], n[1]);
            case "meet": return y.meet(n[0], n[1], n[2], n[3]);
            case "root": return y.root(n[0], n[1], n[2]);
            case "write": return y.write(n[0]);
            case "row": return y.row(n[0]);
            case "forge": return y.forge(n[0], v);
            case "check": return y.check(n[0]);
            case "act": return y.act(n[0], n[1], n[2]);
            case "trace": return y.trace(n[0]);
            case "count": return y.count(n[0]);
            case "sheet": return y.sheet(n[0], n[1], n[2]);
            case "cell": return y.cell(n[0], n[1], n[2]);
            case "copy": return y.copy(n[0], n[1], n[2], n[3], n[4]);
            default: return y.taken(n[0], n[1]);
        }
    }
}
