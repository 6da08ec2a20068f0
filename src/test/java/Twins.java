import java.util.ArrayList;
import java.util.List;

/**
 * Two objects made by the same calls. One of them is asked something more; if that changed nothing, both answer the
 * same to all that is asked then. The questions come in parts, as an object is used for 512 calls at most.
 */
final class Twins {
    /** How an object is made. */
    interface Recipe {
        CornerCurves make();
    }

    /** What is asked. */
    interface Call {
        long on(CornerCurves x);
    }

    private static final int PARTS = 8;
    private static final int[] PRIMES = {2, 3, 5, 7};
    // Nine items from each of these on: all items of SHEETS of 9, 12 and 20.
    private static final int[] WINDOWS = {0, 3, 9, 11};

    private Twins() { }

    /** A call answers what is due and changes nothing. */
    static void still(Due due, Recipe recipe, long want, Call call) {
        for (int part = 0; part < PARTS; part++) {
            CornerCurves asked = recipe.make();
            CornerCurves left = recipe.make();
            due.is("the call", call.on(asked), want);
            same(due, part, answers(asked, part), answers(left, part));
        }
    }

    private static void same(Due due, int part, List<Long> got, List<Long> want) {
        due.is("how many answers of part " + part, got.size(), want.size());
        for (int k = 0; k < got.size() && k < want.size(); k++) {
            due.is("later answer " + k + " of part " + part, got.get(k), want.get(k));
        }
    }

    private static List<Long> answers(CornerCurves x, int part) {
        List<Long> all = new ArrayList<>();
        switch (part) {
            case 0: proofsAndBodies(x, all); break;
            case 1: told(x, all); break;
            case 2: numbers(x, 0, all); break;
            case 3: numbers(x, 5, all); break;
            default: sheet(x, part - 4, all); break;
        }
        return all;
    }

    private static void proofsAndBodies(CornerCurves x, List<Long> all) {
        for (int what = 0; what < 3; what++) {
            all.add((long) x.count(what));
        }
        for (int i = 0; i < 15; i++) {
            all.add((long) x.trace(i));
        }
        for (int i = 0; i < x.count(1); i++) {
            all.add(x.row(i));
        }
        for (int f = 0; f < 10; f++) {
            all.add((long) x.check(f));
        }
    }

    private static void told(CornerCurves x, List<Long> all) {
        for (int f = 0; f < 10; f++) {
            for (int what = 0; what < 10; what++) {
                all.add((long) x.told(f, what));
            }
            all.add((long) x.act(f, 2, 9));
            all.add((long) x.write(f));
            all.add(x.row(5));
        }
        all.add((long) x.form());
    }

    private static void numbers(CornerCurves x, int from, List<Long> all) {
        for (int f = from; f < from + 5; f++) {
            for (int place = 0; place < 49; place++) {
                all.add((long) x.number(f, place / 7, place % 7));
            }
            all.add((long) x.number(f, 8, 8));
        }
    }

    private static void sheet(CornerCurves x, int sheet, List<Long> all) {
        while (x.count(0) > 8) {
            x.drop();
        }
        for (int sort = 0; sort < 3; sort++) {
            all.add((long) x.hide(sheet, sort, 100, 2));
        }
        for (int from : WINDOWS) {
            for (int prime : PRIMES) {
                hidden(x, sheet, from, prime, all);
            }
        }
        for (int i = 0; i < 41; i++) {
            all.add((long) x.cell(sheet, i, 1));
        }
    }

    private static void hidden(CornerCurves x, int sheet, int from, int prime, List<Long> all) {
        for (int sort = 0; sort < 3; sort++) {
            int f = x.hide(sheet, sort, from, prime);
            if (f >= 0) {
                for (int place = 0; place < 9; place++) {
                    all.add((long) x.number(f, place / 3, place % 3));
                }
                x.drop();
            }
        }
    }
}
