/** FORMS and SHEETS that tests begin with. */
final class Scenes {
    static final int NONE = -1, BAD = -2, STATE = -3, FULL = -4;
    static final int NOTHING = -11, OUTSIDE = -12, OTHER = -13, BELOW = -14;
    static final int NO_NUMBER = -100000;
    static final long NO = -4611686018427387904L;
    static final int HUGE = Integer.MAX_VALUE, DEEP = Integer.MIN_VALUE;

    private Scenes() { }

    /** A FORM of i, j, v, i, j, v .. */
    static int put(CornerCurves x, int... told) {
        int f = x.form();
        for (int k = 0; k + 2 < told.length; k += 3) {
            x.term(f, told[k], told[k + 1], told[k + 2]);
        }
        return f;
    }

    /** A FORM of i, j, i, j .. with NUMBERS 0. */
    static int flat(CornerCurves x, int... places) {
        int f = x.form();
        for (int k = 0; k + 1 < places.length; k += 2) {
            x.term(f, places[k], places[k + 1], 0);
        }
        return f;
    }

    /** A FORM of one TERM, at the PLACE (0, 0). */
    static int dot(CornerCurves x, int v) {
        return put(x, 0, 0, v);
    }

    /** A FORM of one TERM at (0, 0) with the NUMBER 200 or -200; five FORMS come for it. */
    static int twoHundred(CornerCurves x, int sign) {
        int twenty = dot(x, 20 * sign);
        int eighty = x.power(twenty, 4);
        int most = x.sum(eighty, eighty);
        return x.sum(most, x.power(twenty, 2));
    }

    /** The least of 0, x and y: three RAYS from (0, 0). */
    static int fork(CornerCurves x) {
        return flat(x, 0, 0, 1, 0, 0, 1);
    }

    /** Five TERMS, one of them IDLE: two CORNERS, (0, 1) and (1, 0), joined by a SIDE, with two RAYS each. */
    static int bowl(CornerCurves x) {
        return put(x, 0, 0, 0, 2, 0, 0, 0, 2, 0, 1, 1, -1, 1, 0, 6);
    }

    /** FORMS without TERMS until there are so many. */
    static CornerCurves fill(CornerCurves x, int forms) {
        for (int k = x.count(0); k < forms; k++) {
            x.form();
        }
        return x;
    }

    /** FORMS 0: KIND 0 with 3 TERMS, 1: SUM with 6, 2: POWER with 3, 3: HIDDEN with 2 TERMS. */
    static CornerCurves fourKinds() {
        CornerCurves x = new CornerCurves();
        fork(x);
        x.sum(0, 0);
        x.power(0, 1);
        x.sheet(0, 2, 9);
        x.cell(0, 0, 1);
        x.cell(0, 1, 1);
        x.hide(0, 2, 0, 2);
        return x;
    }

    /**
     * FORMS 0: bowl(), 1: SUM, 2: POWER, 3: HIDDEN, 4: without TERMS; SHEETS 0: 12 bytes, 1: 20 ints, 2: 9 longs,
     * 3: missing; THE ROWS of FORM 0 with one forged; THE TRACE of a POWER.
     */
    static CornerCurves rich() {
        CornerCurves x = new CornerCurves();
        bowl(x);
        x.sum(0, 0);
        x.power(0, 2);
        int[] sizes = {12, 20, 9};
        for (int s = 0; s < 3; s++) {
            x.sheet(s, s, sizes[s]);
            for (int i = 0; i < sizes[s]; i++) {
                x.cell(s, i, many(s, i));
            }
        }
        x.hide(2, 2, 0, 3);
        x.form();
        x.write(0);
        x.forge(2, 99);
        x.act(2, 2, 5);
        return x;
    }

    /** A number that the primes 2, 3, 5, 7 tell from those beside it. */
    private static int many(int sheet, int i) {
        int[] first = {1, 2, 4, 8, 3, 6, 12, 5, 10, 20, 7, 14, 9, 18, 15, 30, 21, 42, 35, 70};
        return first[(i + sheet) % first.length];
    }

    /** rich() with 10 FORMS. */
    static CornerCurves full() {
        return fill(rich(), 10);
    }

    /** rich() with FORMS 5: 12 TERMS, 6: five TERMS in a row, 7: their SUM of 32 TERMS. */
    static CornerCurves twelve() {
        CornerCurves x = rich();
        int f = x.form();
        for (int k = 0; k < 12; k++) {
            x.term(f, k / 5, k % 5, k);
        }
        x.sum(f, flat(x, 0, 0, 1, 0, 2, 0, 3, 0, 4, 0));
        return x;
    }

    /** FORMS 4: one TERM with the NUMBER 200, 5: one at (4, 4), 6: one at (8, 8); SHEET 0: 12 bytes. */
    static CornerCurves far() {
        CornerCurves x = new CornerCurves();
        twoHundred(x, 1);
        x.power(flat(x, 4, 4), 2);
        x.sheet(0, 0, 12);
        x.cell(0, 11, 6);
        x.write(6);
        x.act(6, 2, 1);
        return x;
    }

    /** FORM 6: one TERM at the PLACE (1, 0) with the NUMBER 200. */
    static CornerCurves sloped() {
        CornerCurves x = new CornerCurves();
        twoHundred(x, 1);
        x.sum(4, flat(x, 1, 0));
        return x;
    }

    /** rich() with all FORMS dropped. */
    static CornerCurves emptied() {
        CornerCurves x = rich();
        while (x.count(0) > 0) {
            x.drop();
        }
        return x;
    }

    /** rich() with SHEET 3: 11 ints. */
    static CornerCurves alike() {
        CornerCurves x = rich();
        x.sheet(3, 1, 11);
        for (int i = 0; i < 11; i++) {
            x.cell(3, i, many(3, i));
        }
        return x;
    }

    /**
     * FORMS with NUMBERS 0: 0 and itself make 41 TERMS, 1 and 2 make 41; 3 and itself make 40, 4 and 5 make 40; no
     * PLACE is beyond 8.
     */
    static CornerCurves crowd() {
        CornerCurves x = new CornerCurves();
        flat(x, 0, 1, 0, 3, 0, 4, 1, 0, 2, 4, 3, 1, 3, 2, 4, 2, 4, 4);
        flat(x, 0, 0, 1, 4, 2, 0, 2, 4, 3, 1, 3, 3, 4, 0, 4, 2);
        flat(x, 0, 1, 1, 2, 1, 3, 4, 0, 4, 1, 4, 4);
        flat(x, 0, 3, 1, 0, 1, 1, 1, 2, 1, 3, 1, 4, 2, 0, 2, 1, 3, 4, 4, 4);
        flat(x, 0, 1, 0, 2, 0, 3, 0, 4, 3, 0, 3, 1, 3, 3, 4, 2);
        flat(x, 0, 0, 0, 4, 1, 3, 2, 2, 3, 2, 4, 2);
        return x;
    }

    /** FORM 2: a SUM of 40 TERMS, none of them IDLE, with 87 EDGES and 48 CORNERS. */
    static CornerCurves dense() {
        CornerCurves x = new CornerCurves();
        put(x, 2, 2, -14, 1, 1, 0, 1, 2, -9, 2, 3, -7, 3, 0, 20, 2, 1, 0, 4, 3, 18, 3, 3, -1, 0, 1, 9, 1, 3, -6, 1, 4, 11,
                3, 1, 2);
        put(x, 4, 2, 7, 1, 2, 1, 2, 2, -10, 0, 2, 20, 3, 2, -5, 0, 1, 20, 1, 1, 5, 3, 3, -3);
        x.sum(0, 1);
        return x;
    }
}
