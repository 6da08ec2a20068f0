import java.util.Arrays;

/** Curves of corners: drawings in the plane that least sums make. */
public final class CornerCurves {
    public static final int NONE = -1, BAD = -2, STATE = -3, FULL = -4;
    public static final long NO = -4611686018427387904L;

    private static final int NOTHING = -11, OUTSIDE = -12, OTHER_SORT = -13, BELOW_ZERO = -14;
    private static final int NO_NUMBER = -100000;

    private static final int FORM = 0, SUM = 1, POWER = 2, HIDDEN = 3;
    private static final int SIDE = 1, RAY = 2, LINE = 3;

    private static final int MOST_FORMS = 10;
    private static final int MOST_TOLD = 12;
    private static final int MOST_TERMS = 40;
    private static final int GREATEST_PLACE = 8;
    private static final int WIDTH = GREATEST_PLACE + 1;
    private static final int PLACES = WIDTH * WIDTH;
    private static final int GREATEST_TOLD_PLACE = 4;
    private static final int GREATEST_TOLD = 20;
    private static final int GREATEST_NUMBER = 200;
    private static final int GREATEST_POWER = 4;
    private static final int GREATEST_MOVE = 10;
    private static final int HIDDEN_WIDTH = 3;
    private static final int HIDDEN_ITEMS = HIDDEN_WIDTH * HIDDEN_WIDTH;

    // A drawing without crossings on n points has at most 3n - 6 stretches and 2n - 5 inner parts.
    private static final int MOST_EDGES = 3 * MOST_TERMS - 6;
    private static final int MOST_CORNERS = 2 * MOST_TERMS - 5;
    // Two squares of side 8 have THE AMOUNT 128, and no two SHAPES have more.
    private static final int MOST_MEETS = 128;

    private static final int SHEETS = 4;
    private static final int MOST_ITEMS = 40;
    private static final int MISSING = -1, BYTES = 0, LONGS = 2;

    private static final int KEPT_BODIES = 40;
    // No body goes more than seven bodies down.
    private static final int DEEPEST_BODY = 16;
    private static final int LIES = 0, WEIGHS = 1, MEETS = 2;
    // By KIND: the body that it has itself or the next one above.
    private static final int[] LIES_BODY = {10, 20, 31, 10};
    private static final int[] WEIGHS_BODY = {11, 11, 30, 11};
    private static final int[] MEETS_BODY = {12, 21, 21, 40};

    private final Form[] forms = new Form[MOST_FORMS];
    private final Curve[] curves = new Curve[MOST_FORMS];
    private final Sheet[] sheets = new Sheet[SHEETS];
    private final long[] rows = new long[4 * (MOST_EDGES + MOST_CORNERS)];
    private final Ring ring = new Ring();
    private final Draft draft = new Draft();
    private final Draft spare = new Draft();
    private final Crossing crossing = new Crossing();
    private final Point point = new Point();
    private final Trace bodies = new Trace();
    private int formCount;
    private int rowCount;

    public CornerCurves() {
        for (int k = 0; k < MOST_FORMS; k++) {
            forms[k] = new Form();
            curves[k] = new Curve(forms[k], ring);
        }
        for (int k = 0; k < SHEETS; k++) {
            sheets[k] = new Sheet();
        }
    }

    public int form() {
        return formCount >= MOST_FORMS ? FULL : openForm(FORM);
    }

    public int term(int form, int i, int j, int v) {
        if (!exists(form) || !within(i, 0, GREATEST_TOLD_PLACE) || !within(j, 0, GREATEST_TOLD_PLACE)
                || !within(v, -GREATEST_TOLD, GREATEST_TOLD)) {
            return BAD;
        }
        Form f = forms[form];
        if (f.kind != FORM) {
            return STATE;
        }
        if (f.find(i, j) == NONE && f.terms >= MOST_TOLD) {
            return FULL;
        }
        f.put(i, j, v);
        return f.terms;
    }

    public int take(int form, int i, int j) {
        int k = findTerm(form, i, j);
        if (k == NONE) {
            return BAD;
        }
        Form f = forms[form];
        if (f.kind != FORM) {
            return STATE;
        }
        f.remove(k);
        return f.terms;
    }

    public int sum(int first, int second) {
        if (!exists(first) || !exists(second)) {
            return BAD;
        }
        draft.load(forms[first]);
        if (formCount >= MOST_FORMS || !spare.addUp(draft, forms[second]) || !spare.fits()) {
            return FULL;
        }
        return openFrom(spare, SUM);
    }

    public int power(int form, int k) {
        if (!exists(form) || !within(k, 1, GREATEST_POWER)) {
            return BAD;
        }
        if (formCount >= MOST_FORMS) {
            return FULL;
        }
        Draft made = draft;
        Draft next = spare;
        made.load(forms[form]);
        for (int step = 1; step < k; step++) {
            // PLACES only grow: what is beyond once is beyond in the end.
            if (!next.addUp(made, forms[form])) {
                return FULL;
            }
            Draft used = made;
            made = next;
            next = used;
        }
        return made.fits() ? openFrom(made, POWER) : FULL;
    }

    public int move(int form, int u, int v) {
        if (!exists(form) || !within(u, -GREATEST_MOVE, GREATEST_MOVE)
                || !within(v, -GREATEST_MOVE, GREATEST_MOVE)) {
            return BAD;
        }
        draft.load(forms[form]);
        draft.shift(u, v);
        return formCount < MOST_FORMS && draft.fits() ? openFrom(draft, SUM) : FULL;
    }

    public int hide(int sheet, int sort, int s, int q) {
        if (!isPrime(q) || !within(sheet, 0, SHEETS - 1) || !within(sort, BYTES, LONGS)) {
            return BAD;
        }
        Sheet from = sheets[sheet];
        if (from.sort == MISSING) {
            return NOTHING;
        }
        if (from.sort != sort) {
            return OTHER_SORT;
        }
        if (s < 0 || s > from.size - HIDDEN_ITEMS) {
            return OUTSIDE;
        }
        if (formCount >= MOST_FORMS) {
            return FULL;
        }
        draft.clear();
        for (int k = 0; k < HIDDEN_ITEMS; k++) {
            long item = from.items[s + k];
            if (item != 0) {
                draft.putLeast(k / HIDDEN_WIDTH, k % HIDDEN_WIDTH, timesIn(item, q));
            }
        }
        return openFrom(draft, HIDDEN);
    }

    public int drop() {
        if (formCount == 0) {
            return STATE;
        }
        formCount--;
        return formCount;
    }

    public int told(int form, int what) {
        if (!exists(form)) {
            return BAD;
        }
        Form f = forms[form];
        switch (what) {
            case 0: return f.kind;
            case 1: return f.terms;
            case 2: return curveOf(form).edges;
            case 3: return curveOf(form).corners.size;
            case 4: return areaOf(f);
            case 5: return curveOf(form).isSmooth() ? 1 : 0;
            case 6: return curveOf(form).countIdle();
            case 7: return curveOf(form).countKind(SIDE);
            case 8: return curveOf(form).countKind(RAY);
            case 9: return curveOf(form).countKind(LINE);
            default: return BAD;
        }
    }

    public int number(int form, int i, int j) {
        int k = findTerm(form, i, j);
        return k == NONE ? NO_NUMBER : forms[form].v[k];
    }

    public long worth(int form, int a, int b, int q, int what) {
        if (!hasTerms(form) || !goTo(a, b, q) || !within(what, 0, 1)) {
            return NO;
        }
        long above = forms[form].leastWorth(point);
        long below = point.below();
        long shared = commonDivisor(above, below);
        return (what == 0 ? above : below) / shared;
    }

    public int leastAt(int form, int a, int b, int q) {
        return hasTerms(form) && goTo(a, b, q) ? forms[form].countLeast(point) : BAD;
    }

    public int idle(int form, int i, int j) {
        int k = findTerm(form, i, j);
        if (k == NONE) {
            return BAD;
        }
        return curveOf(form).isIdle(k) ? 1 : 0;
    }

    public int same(int a, int b) {
        if (!exists(a) || !exists(b)) {
            return BAD;
        }
        Curve one = curveOf(a);
        Curve other = curveOf(b);
        // What a FORM is worth is made by the TERMS that are not IDLE, and makes them.
        return one.standsIn(other) && other.standsIn(one) ? 1 : 0;
    }

    public int edge(int form, int e, int what) {
        if (!exists(form)) {
            return NO_NUMBER;
        }
        Curve c = curveOf(form);
        if (!within(e, 0, c.edges - 1)) {
            return NO_NUMBER;
        }
        switch (what) {
            case 0: return c.directionX(e);
            case 1: return c.directionY(e);
            case 2: return c.weight(e);
            case 3: return c.kindOf(e);
            case 4: return forms[form].i[c.former[e]];
            case 5: return forms[form].j[c.former[e]];
            case 6: return forms[form].i[c.latter[e]];
            case 7: return forms[form].j[c.latter[e]];
            default: return NO_NUMBER;
        }
    }

    public long end(int form, int e, int way, int what) {
        if (!exists(form) || !within(way, 0, 1) || !within(what, 0, 3)) {
            return NO;
        }
        Curve c = curveOf(form);
        if (!within(e, 0, c.edges - 1)) {
            return NO;
        }
        int at = way == 0 ? c.first[e] : c.last[e];
        return at == NONE ? NO : c.corners.part(at, what);
    }

    public long corner(int form, int c, int what) {
        if (!exists(form) || !within(what, 0, 6)) {
            return NO;
        }
        Curve curve = curveOf(form);
        if (!within(c, 0, curve.corners.size - 1)) {
            return NO;
        }
        switch (what) {
            case 4: return curve.countLeastAt(c);
            case 5: return curve.areaAt(c);
            case 6: return curve.countEdgesAt(c);
            default: return curve.corners.part(c, what);
        }
    }

    public int amount(int a, int b) {
        if (!exists(a) || !exists(b)) {
            return BAD;
        }
        if (!hasTerms(a) || !hasTerms(b)) {
            return STATE;
        }
        draft.load(forms[a]);
        if (!spare.addUp(draft, forms[b])) {
            return STATE;
        }
        ring.clear();
        for (int place = 0; place < PLACES; place++) {
            if (spare.has(place)) {
                ring.add(place / WIDTH, place % WIDTH);
            }
        }
        int whole = ring.area();
        return (whole - areaOf(forms[a]) - areaOf(forms[b])) / 2;
    }

    public int meets(int a, int b) {
        if (!exists(a) || !exists(b)) {
            return BAD;
        }
        return crossing.lay(curveOf(a), curveOf(b)) ? crossing.points.size : STATE;
    }

    public long meet(int a, int b, int i, int what) {
        if (!exists(a) || !exists(b) || !within(what, 0, 4)) {
            return NO;
        }
        if (!crossing.lay(curveOf(a), curveOf(b)) || !within(i, 0, crossing.points.size - 1)) {
            return NO;
        }
        return what == 4 ? crossing.counts[i] : crossing.points.part(i, what);
    }

    public long root(int form, int i, int what) {
        if (!exists(form) || !within(what, 0, 2) || !forms[form].isOfOneLetter()) {
            return NO;
        }
        Curve c = curveOf(form);
        if (!within(i, 0, c.edges - 1)) {
            return NO;
        }
        // The lower PLACES are LEAST further right: the last EDGE is the leftmost.
        int e = c.edges - 1 - i;
        if (what == 2) {
            return c.weight(e);
        }
        point.reduce(c.level(e), 0, c.acrossI(e));
        return what == 0 ? point.xAbove : point.xBelow;
    }

    public int write(int form) {
        if (!exists(form)) {
            return BAD;
        }
        Curve c = curveOf(form);
        rowCount = c.countRows();
        for (int k = 0; k < rowCount; k++) {
            rows[k] = c.proofNumber(k);
        }
        return rowCount;
    }

    public long row(int i) {
        return within(i, 0, rowCount - 1) ? rows[i] : NO;
    }

    public int forge(int i, long v) {
        if (!within(i, 0, rowCount - 1)) {
            return BAD;
        }
        rows[i] = v;
        return 1;
    }

    public int check(int form) {
        if (!exists(form)) {
            return BAD;
        }
        Curve c = curveOf(form);
        int due = c.countRows();
        int both = Math.min(due, rowCount);
        for (int k = 0; k < both; k++) {
            if (rows[k] != c.proofNumber(k)) {
                return k;
            }
        }
        return due == rowCount ? NONE : both;
    }

    public int act(int form, int act, int x) {
        bodies.ran = 0;
        if (!exists(form) || !within(act, LIES, MEETS)) {
            return 0;
        }
        bodies.number = form;
        bodies.kind = forms[form].kind;
        bodies.terms = forms[form].terms;
        return runBody(bodies, bodies.bodyOf(act), x, 0);
    }

    public int trace(int i) {
        return within(i, 0, Math.min(bodies.ran, KEPT_BODIES) - 1) ? bodies.began[i] : NONE;
    }

    public int count(int what) {
        switch (what) {
            case 0: return formCount;
            case 1: return rowCount;
            case 2: return bodies.ran;
            default: return BAD;
        }
    }

    public int sheet(int sheet, int sort, int n) {
        if (!within(sheet, 0, SHEETS - 1) || !within(sort, MISSING, LONGS)) {
            return BAD;
        }
        if (sort == MISSING) {
            sheets[sheet].become(MISSING, 0);
            return 1;
        }
        if (n > MOST_ITEMS) {
            return BAD;
        }
        if (n < 0) {
            return BELOW_ZERO;
        }
        sheets[sheet].become(sort, n);
        return 1;
    }

    public int cell(int sheet, int i, int v) {
        if (!within(sheet, 0, SHEETS - 1)) {
            return BAD;
        }
        Sheet s = sheets[sheet];
        if (s.sort == MISSING) {
            return NOTHING;
        }
        if (!within(i, 0, s.size - 1)) {
            return OUTSIDE;
        }
        s.items[i] = s.sort == BYTES ? (byte) v : v;
        return 1;
    }

    public int copy(int sheet, int i, int other, int j, int n) {
        if (!within(sheet, 0, SHEETS - 1) || !within(other, 0, SHEETS - 1)) {
            return BAD;
        }
        Sheet from = sheets[sheet];
        Sheet to = sheets[other];
        if (from.sort == MISSING || to.sort == MISSING) {
            return NOTHING;
        }
        if (from.sort != to.sort) {
            return OTHER_SORT;
        }
        if (!from.holds(i, n) || !to.holds(j, n)) {
            return OUTSIDE;
        }
        System.arraycopy(from.items, i, to.items, j, n);
        return n;
    }

    public int taken(int form, int k) {
        if (!within(k, FORM, HIDDEN)) {
            return BAD;
        }
        if (!exists(form)) {
            return NOTHING;
        }
        return isUnder(forms[form].kind, k) ? forms[form].terms : OTHER_SORT;
    }

    private boolean exists(int form) {
        return within(form, 0, formCount - 1);
    }

    private boolean hasTerms(int form) {
        return exists(form) && forms[form].terms > 0;
    }

    /** Which TERM of a FORM is at a PLACE; NONE: no such FORM, no TERM there. */
    private int findTerm(int form, int i, int j) {
        return exists(form) ? forms[form].find(i, j) : NONE;
    }

    /** Makes the point (a / q, b / q) the one asked for; false: it is not as told. */
    private boolean goTo(int a, int b, int q) {
        if (!within(a, -1000, 1000) || !within(b, -1000, 1000) || !within(q, 1, 100)) {
            return false;
        }
        point.reduce(a, b, q);
        return true;
    }

    /** The CURVE of a FORM that exists, drawn. */
    private Curve curveOf(int form) {
        Curve c = curves[form];
        if (!c.form.drawn) {
            c.draw();
        }
        return c;
    }

    private int areaOf(Form f) {
        ring.clear();
        for (int k = 0; k < f.terms; k++) {
            ring.add(f.i[k], f.j[k]);
        }
        return ring.area();
    }

    /** The next FORM, without TERMS; only where there is room for one. */
    private int openForm(int kind) {
        int made = formCount;
        forms[made].begin(kind);
        formCount++;
        return made;
    }

    private int openFrom(Draft from, int kind) {
        int made = openForm(kind);
        from.pour(forms[made]);
        return made;
    }

    private static boolean within(int x, int least, int greatest) {
        return x >= least && x <= greatest;
    }

    private static boolean isPrime(int q) {
        return q == 2 || q == 3 || q == 5 || q == 7;
    }

    private static boolean isUnder(int kind, int above) {
        return above == FORM || kind == above || kind == POWER && above == SUM;
    }

    /** How often a prime goes into a number that is not 0. */
    private static int timesIn(long number, int prime) {
        int times = 0;
        long left = number;
        while (times < 64 && prime != 0 && left % prime == 0) {
            left = left / prime;
            times++;
        }
        return times;
    }

    /** The greatest common divisor, always above 0. */
    private static long commonDivisor(long a, long b) {
        long x = a < 0 ? -a : a;
        long y = b < 0 ? -b : b;
        for (int step = 0; step < 100 && y != 0; step++) {
            long rest = x % y;
            x = y;
            y = rest;
        }
        return x > 0 ? x : 1;
    }

    /** What a body answers; "super" in a body names one body, for each KIND the same. */
    private static int runBody(Trace run, int body, int x, int depth) {
        if (depth > DEEPEST_BODY) {
            return 0;
        }
        run.begins(body);
        int down = depth + 1;
        switch (body) {
            case 10: return x + run.terms;
            case 11: return runBody(run, run.bodyOf(LIES), x, down) * 3;
            case 12: return runBody(run, run.bodyOf(WEIGHS), x, down)
                    - runBody(run, run.bodyOf(LIES), x + run.number, down);
            case 20: return runBody(run, 10, x, down) ^ 7;
            case 21: return runBody(run, 12, x, down) + runBody(run, run.bodyOf(LIES), 0, down);
            case 30: return runBody(run, 11, x - 1, down);
            case 31: return runBody(run, 20, x, down) * 2;
            case 40: return runBody(run, 12, x, down) ^ runBody(run, run.bodyOf(WEIGHS), x, down);
            default: return 0;
        }
    }

    /** THE TRACE, and the FORM whose ACT runs. */
    private static final class Trace {
        final int[] began = new int[KEPT_BODIES];
        int ran;
        int number;
        int kind;
        int terms;

        void begins(int body) {
            if (ran < KEPT_BODIES) {
                began[ran] = body;
            }
            ran++;
        }

        int bodyOf(int act) {
            switch (act) {
                case LIES: return LIES_BODY[kind];
                case WEIGHS: return WEIGHS_BODY[kind];
                default: return MEETS_BODY[kind];
            }
        }
    }

    /** A SHEET; items beyond the size do not count. */
    private static final class Sheet {
        final long[] items = new long[MOST_ITEMS];
        int sort = MISSING;
        int size;

        void become(int newSort, int newSize) {
            sort = newSort;
            size = newSize;
            Arrays.fill(items, 0L);
        }

        boolean holds(int from, int n) {
            return n >= 0 && from >= 0 && from <= size && n <= size - from;
        }
    }

    /** A FORM: its KIND and its TERMS, ordered by PLACE. */
    private static final class Form {
        final int[] i = new int[MOST_TERMS];
        final int[] j = new int[MOST_TERMS];
        final int[] v = new int[MOST_TERMS];
        int kind;
        int terms;
        // Whether the CURVE that was drawn last is that of the TERMS as they are now.
        boolean drawn;

        void begin(int newKind) {
            kind = newKind;
            terms = 0;
            drawn = false;
        }

        int find(int placeI, int placeJ) {
            for (int k = 0; k < terms; k++) {
                if (i[k] == placeI && j[k] == placeJ) {
                    return k;
                }
            }
            return NONE;
        }

        void put(int placeI, int placeJ, int number) {
            int at = 0;
            while (at < terms && (i[at] < placeI || i[at] == placeI && j[at] < placeJ)) {
                at++;
            }
            boolean there = at < terms && i[at] == placeI && j[at] == placeJ;
            if (!there) {
                if (terms >= MOST_TERMS) {
                    return;
                }
                slide(at, at + 1);
                terms++;
            }
            i[at] = placeI;
            j[at] = placeJ;
            v[at] = number;
            drawn = false;
        }

        void remove(int at) {
            slide(at + 1, at);
            terms--;
            drawn = false;
        }

        /** Brings the TERMS from one on to another place of the rows. */
        private void slide(int from, int to) {
            int n = terms - from;
            if (n > 0 && from >= 0 && to >= 0 && to + n <= MOST_TERMS) {
                System.arraycopy(i, from, i, to, n);
                System.arraycopy(j, from, j, to, n);
                System.arraycopy(v, from, v, to, n);
            }
        }

        boolean isOfOneLetter() {
            for (int k = 0; k < terms; k++) {
                if (j[k] != 0) {
                    return false;
                }
            }
            return true;
        }

        /** What a TERM is worth at a point, times p.below(). */
        long worthOf(int k, Point p) {
            return i[k] * p.xAbove * p.yBelow + j[k] * p.yAbove * p.xBelow + v[k] * p.below();
        }

        /** What the FORM is worth at a point, times p.below(); 0 without TERMS. */
        long leastWorth(Point p) {
            long least = terms > 0 ? worthOf(0, p) : 0;
            for (int k = 1; k < terms; k++) {
                least = Math.min(least, worthOf(k, p));
            }
            return least;
        }

        int countLeast(Point p) {
            long least = leastWorth(p);
            int n = 0;
            for (int k = 0; k < terms; k++) {
                if (worthOf(k, p) == least) {
                    n++;
                }
            }
            return n;
        }
    }

    /** A table of PLACES in which the TERMS of a new FORM come together. */
    private static final class Draft {
        // Far above all sums of NUMBERS, so that the least of it and a NUMBER is the NUMBER.
        private static final int EMPTY = 1000000;
        final int[] numbers = new int[PLACES];

        void clear() {
            Arrays.fill(numbers, EMPTY);
        }

        boolean has(int place) {
            return numbers[place] != EMPTY;
        }

        void putLeast(int i, int j, int number) {
            int place = i * WIDTH + j;
            numbers[place] = Math.min(numbers[place], number);
        }

        void load(Form f) {
            clear();
            for (int k = 0; k < f.terms; k++) {
                putLeast(f.i[k], f.j[k], f.v[k]);
            }
        }

        /** Becomes the SUM of a table and a FORM; false: a PLACE is beyond. */
        boolean addUp(Draft one, Form other) {
            clear();
            for (int place = 0; place < PLACES; place++) {
                if (one.has(place) && !addTerm(place, one.numbers[place], other)) {
                    return false;
                }
            }
            return true;
        }

        private boolean addTerm(int place, int number, Form other) {
            for (int k = 0; k < other.terms; k++) {
                int i = place / WIDTH + other.i[k];
                int j = place % WIDTH + other.j[k];
                if (i > GREATEST_PLACE || j > GREATEST_PLACE) {
                    return false;
                }
                putLeast(i, j, number + other.v[k]);
            }
            return true;
        }

        void shift(int u, int v) {
            for (int place = 0; place < PLACES; place++) {
                if (has(place)) {
                    numbers[place] += place / WIDTH * u + place % WIDTH * v;
                }
            }
        }

        /** Whether the TERMS are not too many and no NUMBER is beyond. */
        boolean fits() {
            int n = 0;
            for (int place = 0; place < PLACES; place++) {
                if (has(place)) {
                    n++;
                    if (!within(numbers[place], -GREATEST_NUMBER, GREATEST_NUMBER)) {
                        return false;
                    }
                }
            }
            return n <= MOST_TERMS;
        }

        void pour(Form f) {
            for (int place = 0; place < PLACES; place++) {
                if (has(place)) {
                    f.put(place / WIDTH, place % WIDTH, numbers[place]);
                }
            }
        }
    }

    /** A point: two FRACTIONS in lowest terms. */
    private static final class Point {
        long xAbove;
        long xBelow = 1;
        long yAbove;
        long yBelow = 1;

        /** Becomes (x / below, y / below); below is not 0. */
        void reduce(long x, long y, long below) {
            long sign = below < 0 ? -1 : 1;
            long byX = sign * commonDivisor(x, below);
            long byY = sign * commonDivisor(y, below);
            xAbove = x / byX;
            xBelow = below / byX;
            yAbove = y / byY;
            yBelow = below / byY;
        }

        /** A line for both FRACTIONS to stand on. */
        long below() {
            return xBelow * yBelow;
        }

        /** How far the point is by the way (-q, p), times below(). */
        long along(int p, int q) {
            return p * yAbove * xBelow - q * xAbove * yBelow;
        }

        /** Whether this point comes before (-1), with (0) or after (1) another by the way (-q, p). */
        int compareAlong(Point other, int p, int q) {
            return Long.compare(along(p, q) * other.below(), other.along(p, q) * below());
        }
    }

    /** Points, by x, then by y. */
    private static final class Points {
        final long[] xAbove;
        final long[] xBelow;
        final long[] yAbove;
        final long[] yBelow;
        final int most;
        int size;

        Points(int room) {
            most = room;
            xAbove = new long[room];
            xBelow = new long[room];
            yAbove = new long[room];
            yBelow = new long[room];
        }

        long part(int at, int what) {
            switch (what) {
                case 0: return xAbove[at];
                case 1: return xBelow[at];
                case 2: return yAbove[at];
                default: return yBelow[at];
            }
        }

        void fetch(int at, Point into) {
            into.xAbove = xAbove[at];
            into.xBelow = xBelow[at];
            into.yAbove = yAbove[at];
            into.yBelow = yBelow[at];
        }

        /** Where a point stands, or would stand. */
        int seek(Point p) {
            int at = 0;
            while (at < size && compare(at, p) < 0) {
                at++;
            }
            return at;
        }

        boolean stands(int at, Point p) {
            return at < size && compare(at, p) == 0;
        }

        /** Below 0: what stands there comes before a point; 0: it is the point. */
        private long compare(int at, Point p) {
            long byX = xAbove[at] * p.xBelow - p.xAbove * xBelow[at];
            return byX != 0 ? byX : yAbove[at] * p.yBelow - p.yAbove * yBelow[at];
        }

        /** Lets a point in where seek() told; false: there is no room. */
        boolean insert(int at, Point p) {
            if (size >= most || at > size) {
                return false;
            }
            int n = size - at;
            System.arraycopy(xAbove, at, xAbove, at + 1, n);
            System.arraycopy(xBelow, at, xBelow, at + 1, n);
            System.arraycopy(yAbove, at, yAbove, at + 1, n);
            System.arraycopy(yBelow, at, yBelow, at + 1, n);
            xAbove[at] = p.xAbove;
            xBelow[at] = p.xBelow;
            yAbove[at] = p.yAbove;
            yBelow[at] = p.yBelow;
            size++;
            return true;
        }
    }

    /** The least ring about PLACES, which come by i, then by j. */
    private static final class Ring {
        final int[] i = new int[PLACES];
        final int[] j = new int[PLACES];
        final int[] chain = new int[PLACES];
        int size;

        void clear() {
            size = 0;
        }

        void add(int placeI, int placeJ) {
            if (size < PLACES) {
                i[size] = placeI;
                j[size] = placeJ;
                size++;
            }
        }

        /** Twice the area. */
        int area() {
            return underChain(1) - underChain(-1);
        }

        /** Twice the area, with its sign, between (0, 0) and the lower (1) or upper (-1) half of the ring. */
        private int underChain(int side) {
            int n = 0;
            for (int k = 0; k < size; k++) {
                while (n >= 2 && side * turn(chain[n - 2], chain[n - 1], k) <= 0) {
                    n--;
                }
                chain[n] = k;
                n++;
            }
            int area = 0;
            for (int k = 1; k < n; k++) {
                int a = chain[k - 1];
                int b = chain[k];
                area += i[a] * j[b] - i[b] * j[a];
            }
            return area;
        }

        /** Above 0: from a by b to c one turns left. */
        private int turn(int a, int b, int c) {
            return (i[b] - i[a]) * (j[c] - j[a]) - (i[c] - i[a]) * (j[b] - j[a]);
        }
    }

    /** THE CURVE of a FORM: its EDGES and CORNERS, in their order. */
    private static final class Curve {
        final Form form;
        final Ring ring;
        final Point point = new Point();
        final Points corners = new Points(MOST_CORNERS);
        // Of each EDGE: which TERMS are its ENDS TERMS, which CORNERS its points (or NONE).
        final int[] former = new int[MOST_EDGES];
        final int[] latter = new int[MOST_EDGES];
        final int[] first = new int[MOST_EDGES];
        final int[] last = new int[MOST_EDGES];
        int edges;
        // From where to where both TERMS at hand are LEAST; 0 below the line: without bound.
        private long lowAbove;
        private long lowBelow;
        private long highAbove;
        private long highBelow;

        Curve(Form of, Ring with) {
            form = of;
            ring = with;
        }

        void draw() {
            edges = 0;
            corners.size = 0;
            // TERMS are ordered by PLACE, so EDGES are found in their order.
            for (int a = 0; a < form.terms; a++) {
                for (int b = a + 1; b < form.terms; b++) {
                    if (edges < MOST_EDGES && findStretch(a, b)) {
                        addEdge(a, b);
                    }
                }
            }
            form.drawn = true;
        }

        /**
         * Whether two TERMS are the ENDS TERMS of an EDGE. With (p, q) from PLACE to PLACE and c from NUMBER
         * to NUMBER they are worth the same at (c p - q t, c q + p t) / (p p + q q) for all t; each other TERM
         * bounds the t where it is not worth less.
         */
        private boolean findStretch(int a, int b) {
            int p = form.i[b] - form.i[a];
            int q = form.j[b] - form.j[a];
            int c = form.v[a] - form.v[b];
            lowBelow = 0;
            highBelow = 0;
            for (int k = 0; k < form.terms; k++) {
                int i = form.i[k] - form.i[a];
                int j = form.j[k] - form.j[a];
                int turn = p * j - q * i;
                int rest = c * (i * p + j * q) + (form.v[k] - form.v[a]) * (p * p + q * q);
                if (turn > 0) {
                    raiseLow(-rest, turn);
                } else if (turn < 0) {
                    bringDownHigh(rest, -turn);
                } else if (rest < 0 || rest == 0 && (k < a || k > b)) {
                    return false;
                }
                if (lowBelow != 0 && highBelow != 0 && lowAbove * highBelow >= highAbove * lowBelow) {
                    return false;
                }
            }
            return true;
        }

        private void raiseLow(long above, long below) {
            if (lowBelow == 0 || above * lowBelow > lowAbove * below) {
                lowAbove = above;
                lowBelow = below;
            }
        }

        private void bringDownHigh(long above, long below) {
            if (highBelow == 0 || above * highBelow < highAbove * below) {
                highAbove = above;
                highBelow = below;
            }
        }

        private void addEdge(int a, int b) {
            int e = edges;
            former[e] = a;
            latter[e] = b;
            first[e] = NONE;
            last[e] = NONE;
            edges++;
            if (lowBelow != 0) {
                first[e] = cornerOn(e, lowAbove, lowBelow);
            }
            if (highBelow != 0) {
                last[e] = cornerOn(e, highAbove, highBelow);
            }
        }

        /** The CORNER of an EDGE where t is above / below; a new one is numbered in. */
        private int cornerOn(int e, long above, long below) {
            long p = acrossI(e);
            long q = acrossJ(e);
            long c = level(e);
            point.reduce(c * p * below - q * above, c * q * below + p * above, (p * p + q * q) * below);
            int at = corners.seek(point);
            if (corners.stands(at, point)) {
                return at;
            }
            if (!corners.insert(at, point)) {
                return NONE;
            }
            for (int k = 0; k < edges; k++) {
                if (first[k] >= at) {
                    first[k]++;
                }
                if (last[k] >= at) {
                    last[k]++;
                }
            }
            return at;
        }

        int acrossI(int e) {
            return form.i[latter[e]] - form.i[former[e]];
        }

        int acrossJ(int e) {
            return form.j[latter[e]] - form.j[former[e]];
        }

        /** What acrossI x and acrossJ y make together on the EDGE. */
        int level(int e) {
            return form.v[former[e]] - form.v[latter[e]];
        }

        int weight(int e) {
            return (int) commonDivisor(acrossI(e), acrossJ(e));
        }

        int directionX(int e) {
            return -acrossJ(e) / weight(e);
        }

        int directionY(int e) {
            return acrossI(e) / weight(e);
        }

        int kindOf(int e) {
            if (first[e] != NONE && last[e] != NONE) {
                return SIDE;
            }
            return first[e] != NONE || last[e] != NONE ? RAY : LINE;
        }

        int countKind(int kind) {
            int n = 0;
            for (int e = 0; e < edges; e++) {
                if (kindOf(e) == kind) {
                    n++;
                }
            }
            return n;
        }

        int countLeastAt(int corner) {
            corners.fetch(corner, point);
            return form.countLeast(point);
        }

        /** AREA of the PART of a CORNER. */
        int areaAt(int corner) {
            corners.fetch(corner, point);
            long least = form.leastWorth(point);
            ring.clear();
            for (int k = 0; k < form.terms; k++) {
                if (form.worthOf(k, point) == least) {
                    ring.add(form.i[k], form.j[k]);
                }
            }
            return ring.area();
        }

        int countEdgesAt(int corner) {
            int n = 0;
            for (int e = 0; e < edges; e++) {
                if (first[e] == corner || last[e] == corner) {
                    n++;
                }
            }
            return n;
        }

        boolean isSmooth() {
            for (int e = 0; e < edges; e++) {
                if (weight(e) != 1) {
                    return false;
                }
            }
            for (int k = 0; k < corners.size; k++) {
                if (areaAt(k) != 1) {
                    return false;
                }
            }
            return true;
        }

        /** Where a TERM alone is LEAST has a rim, if there is another one: of EDGES that end at it. */
        boolean isIdle(int term) {
            if (form.terms < 2) {
                return false;
            }
            for (int e = 0; e < edges; e++) {
                if (former[e] == term || latter[e] == term) {
                    return false;
                }
            }
            return true;
        }

        int countIdle() {
            int n = 0;
            for (int k = 0; k < form.terms; k++) {
                if (isIdle(k)) {
                    n++;
                }
            }
            return n;
        }

        /** Whether each TERM that is not IDLE is such a one of another FORM too. */
        boolean standsIn(Curve other) {
            for (int k = 0; k < form.terms; k++) {
                if (!isIdle(k)) {
                    int there = other.form.find(form.i[k], form.j[k]);
                    if (there == NONE || other.form.v[there] != form.v[k] || other.isIdle(there)) {
                        return false;
                    }
                }
            }
            return true;
        }

        int countRows() {
            return 4 * (edges + corners.size);
        }

        /** Number k, below countRows(), of the proof. */
        long proofNumber(int k) {
            int e = k / 4;
            if (e >= edges) {
                return corners.part(e - edges, k % 4);
            }
            switch (k % 4) {
                case 0: return directionX(e);
                case 1: return directionY(e);
                case 2: return weight(e);
                default: return kindOf(e);
            }
        }
    }

    /** The MEETS of two CURVES. */
    private static final class Crossing {
        final Points points = new Points(MOST_MEETS);
        final int[] counts = new int[MOST_MEETS];
        private final Point point = new Point();
        private final Point firstEnd = new Point();
        private final Point secondEnd = new Point();

        /** Finds the MEETS; false: the CURVES do not CROSS WELL. */
        boolean lay(Curve one, Curve other) {
            points.size = 0;
            if (touches(one, other.form) || touches(other, one.form)) {
                return false;
            }
            for (int e = 0; e < one.edges; e++) {
                for (int f = 0; f < other.edges; f++) {
                    if (!layEdges(one, e, other, f)) {
                        return false;
                    }
                }
            }
            return true;
        }

        /** Whether a CORNER of one is on the CURVE of another FORM. */
        private boolean touches(Curve one, Form other) {
            for (int k = 0; k < one.corners.size; k++) {
                one.corners.fetch(k, point);
                if (other.countLeast(point) >= 2) {
                    return true;
                }
            }
            return false;
        }

        /** Notes the point that two EDGES share; false: they share more than one. */
        private boolean layEdges(Curve one, int e, Curve other, int f) {
            int p = one.acrossI(e);
            int q = one.acrossJ(e);
            int c = one.level(e);
            int r = other.acrossI(f);
            int s = other.acrossJ(f);
            int d = other.level(f);
            int across = p * s - q * r;
            if (across == 0) {
                boolean oneLine = p * d == r * c && q * d == s * c;
                return !oneLine || !overlap(one, e, other, f);
            }
            point.reduce(c * s - d * q, p * d - r * c, across);
            if (holds(one, e) && holds(other, f)) {
                // (a d less b c) times both WEIGHTS is what stands across.
                note(Math.abs(across));
            }
            return true;
        }

        private void note(int count) {
            int at = points.seek(point);
            int n = points.size - at;
            if (points.insert(at, point)) {
                System.arraycopy(counts, at, counts, at + 1, n);
                counts[at] = count;
            }
        }

        /** Whether the point at hand, on the line of an EDGE, is on the EDGE. */
        private boolean holds(Curve c, int e) {
            int p = c.acrossI(e);
            int q = c.acrossJ(e);
            if (c.first[e] != NONE) {
                c.corners.fetch(c.first[e], firstEnd);
                if (point.compareAlong(firstEnd, p, q) < 0) {
                    return false;
                }
            }
            if (c.last[e] != NONE) {
                c.corners.fetch(c.last[e], secondEnd);
                return point.compareAlong(secondEnd, p, q) <= 0;
            }
            return true;
        }

        /** Whether two EDGES on one line, so of one DIRECTION, have a stretch in common. */
        private boolean overlap(Curve one, int e, Curve other, int f) {
            return beginsBefore(one, e, other, f) && beginsBefore(other, f, one, e);
        }

        private boolean beginsBefore(Curve one, int e, Curve other, int f) {
            if (one.first[e] == NONE || other.last[f] == NONE) {
                return true;
            }
            one.corners.fetch(one.first[e], firstEnd);
            other.corners.fetch(other.last[f], secondEnd);
            return firstEnd.compareAlong(secondEnd, one.acrossI(e), one.acrossJ(e)) < 0;
        }
    }
}
