/** Promises 10 to 22: a test for each sentence that names a boundary. What they refuse is in RefusalsTest, too. */
public final class CurvesBoundaryTest {
    private static final int BAD = Scenes.BAD, STATE = Scenes.STATE, NO_NUMBER = Scenes.NO_NUMBER;
    private static final int HUGE = Scenes.HUGE, DEEP = Scenes.DEEP;
    private static final long NO = Scenes.NO;
    private static final Cases cases = new Cases();

    public static void main(String[] args) {
        told();
        toldOfMany();
        number();
        worth();
        leastAt();
        idleAndSame();
        edge();
        end();
        corner();
        amount();
        meets();
        meet();
        root();
        cases.close();
    }

    private static void told() {
        cases.test("Promise 10: what 0 .. 9", due -> {
            CornerCurves x = new CornerCurves();
            Scenes.bowl(x);
            int[] want = {0, 5, 5, 2, 4, 0, 1, 1, 4, 0};
            for (int what = 0; what < 10; what++) {
                due.is("what " + what, x.told(0, what), want[what]);
            }
            due.is("what -1", x.told(0, -1), BAD);
            due.is("what 10", x.told(0, 10), BAD);
            due.is("what far off", x.told(0, DEEP), BAD);
        });
        cases.test("Promise 10: of a FORM without TERMS, of KIND 0 and 1", due -> {
            CornerCurves x = new CornerCurves();
            x.form();
            x.sum(0, 0);
            for (int f = 0; f < 2; f++) {
                int[] want = {f, 0, 0, 0, 0, 1, 0, 0, 0, 0};
                for (int what = 0; what < 10; what++) {
                    due.is("what " + what + " of " + f, x.told(f, what), want[what]);
                }
            }
        });
        cases.test("Promise 10: of a FORM of one TERM", due -> {
            CornerCurves x = new CornerCurves();
            Scenes.put(x, 4, 4, -20);
            int[] want = {0, 1, 0, 0, 0, 1, 0, 0, 0, 0};
            for (int what = 0; what < 10; what++) {
                due.is("what " + what, x.told(0, what), want[what]);
            }
        });
        cases.test("Promise 10: KIND and TERMS of each KIND", due -> {
            CornerCurves x = Scenes.fourKinds();
            int[] terms = {3, 6, 3, 2};
            for (int f = 0; f < 4; f++) {
                due.is("KIND", x.told(f, 0), f);
                due.is("TERMS", x.told(f, 1), terms[f]);
            }
        });
        cases.test("Promise 10, BAD: no such FORM", due -> {
            CornerCurves x = Scenes.fourKinds();
            for (int f : new int[] {-1, 4, 9, 10, HUGE, DEEP}) {
                due.is("FORM " + f, x.told(f, 0), BAD);
            }
            x.drop();
            due.is("one that went", x.told(3, 0), BAD);
        });
        cases.test("Promise 10: SIDES, RAYS and LINES are all EDGES", due -> {
            CornerCurves x = Scenes.crowd();
            x.sum(4, 5);
            x.power(3, 2);
            for (int f = 0; f < 8; f++) {
                due.is("FORM " + f, x.told(f, 7) + x.told(f, 8) + x.told(f, 9), x.told(f, 2));
            }
        });
        cases.test("Promise 10: of 40 TERMS, as many EDGES as a lattice has", due -> {
            CornerCurves x = new CornerCurves();
            int wide = Scenes.put(x, 0, 0, 0, 1, 0, -6, 2, 0, -8, 3, 0, -6, 4, 0, 0);
            int other = Scenes.put(x, 0, 0, 0, 1, 0, -4, 2, 0, -4, 3, 0, 0);
            int tall = Scenes.put(x, 0, 0, 0, 0, 1, -3, 0, 2, -4, 0, 3, -3, 0, 4, 0);
            int lattice = x.sum(x.sum(wide, other), tall);
            int[] want = {1, 40, 67, 28, 56, 0, 0, 45, 22, 0};
            for (int what = 0; what < 10; what++) {
                due.is("what " + what, x.told(lattice, what), want[what]);
            }
        });
    }

    private static void toldOfMany() {
        cases.test("Promise 10: of 40 TERMS, none of them IDLE", due -> {
            CornerCurves x = Scenes.dense();
            due.is("TERMS", x.told(2, 1), 40);
            due.is("IDLE", x.told(2, 6), 0);
            due.is("EDGES", x.told(2, 2), 87);
            due.is("CORNERS", x.told(2, 3), 48);
            due.is("SIDES, RAYS and LINES", x.told(2, 7) + x.told(2, 8) + x.told(2, 9), 87);
            int parts = 0;
            int ends = 0;
            for (int c = 0; c < 48; c++) {
                parts += (int) x.corner(2, c, 5);
                ends += (int) x.corner(2, c, 6);
            }
            due.is("the PARTS make THE SHAPE", parts, x.told(2, 4));
            due.is("ends of EDGES", ends, 2 * x.told(2, 7) + x.told(2, 8));
        });
        cases.test("Promise 10: of a FORM that had more TERMS, as of one that never had", due -> {
            CornerCurves x = new CornerCurves();
            x.form();
            int[] told = new int[36];
            for (int k = 0; k < 12; k++) {
                told[3 * k] = k / 3;
                told[3 * k + 1] = k % 3;
                told[3 * k + 2] = k * k % 7 - k % 3;
                x.term(0, told[3 * k], told[3 * k + 1], told[3 * k + 2]);
            }
            for (int k = 11; k >= 0; k--) {
                for (int what = 0; what < 10; what++) {
                    due.is((k + 1) + " TERMS, " + what, x.told(0, what), afresh(told, k + 1).told(0, what));
                }
                due.is("ROOT of " + (k + 1), x.root(0, 0, 0), afresh(told, k + 1).root(0, 0, 0));
                x.take(0, told[3 * k], told[3 * k + 1]);
            }
        });
        cases.test("Promise 10, SMOOTH: EDGES that are no more don't count", due -> {
            CornerCurves x = new CornerCurves();
            Scenes.flat(x, 0, 0, 0, 1, 2, 0);
            due.is("with an EDGE of WEIGHT 2", x.told(0, 5), 0);
            x.take(0, 2, 0);
            due.is("one LINE", x.told(0, 2), 1);
            due.is("SMOOTH", x.told(0, 5), 1);
        });
    }

    /** A FORM of so many of the TERMS told. */
    private static CornerCurves afresh(int[] told, int terms) {
        CornerCurves x = new CornerCurves();
        Scenes.put(x, java.util.Arrays.copyOf(told, 3 * terms));
        return x;
    }

    private static void number() {
        cases.test("Promise 11: NUMBERS at their limits, and 0", due -> {
            CornerCurves x = new CornerCurves();
            Scenes.put(x, 0, 4, -20, 4, 0, 20, 2, 2, 0);
            due.is("-20", x.number(0, 0, 4), -20);
            due.is("20", x.number(0, 4, 0), 20);
            due.is("0", x.number(0, 2, 2), 0);
            int most = Scenes.twoHundred(x, 1);
            due.is("200", x.number(most, 0, 0), 200);
        });
        cases.test("Promise 11: PLACES beyond 4", due -> {
            CornerCurves x = Scenes.far();
            due.is("(8, 8)", x.number(6, 8, 8), 0);
            due.is("(8, 7)", x.number(6, 8, 7), NO_NUMBER);
            due.is("(9, 8)", x.number(6, 9, 8), NO_NUMBER);
        });
        cases.test("Promise 11, -100000: no such FORM, no TERM there", due -> {
            CornerCurves x = Scenes.fourKinds();
            for (int f : new int[] {-1, 4, 9, 10, HUGE, DEEP}) {
                due.is("FORM " + f, x.number(f, 0, 0), NO_NUMBER);
            }
            int[][] at = {{1, 1}, {-1, 0}, {0, -1}, {9, 0}, {0, 9}, {HUGE, HUGE}, {DEEP, 0}};
            for (int[] a : at) {
                due.is("no TERM", x.number(0, a[0], a[1]), NO_NUMBER);
            }
        });
    }

    private static void worth() {
        cases.test("Promise 12: a and b -1000 .. 1000", due -> {
            CornerCurves x = new CornerCurves();
            Scenes.put(x, 4, 3, 20);
            due.is("both 1000", x.worth(0, 1000, 1000, 1, 0), 7020);
            due.is("both -1000", x.worth(0, -1000, -1000, 1, 0), -6980);
            due.is("1000, -1000", x.worth(0, 1000, -1000, 1, 0), 1020);
            due.is("a 1001", x.worth(0, 1001, 0, 1, 0), NO);
            due.is("a -1001", x.worth(0, -1001, 0, 1, 0), NO);
            due.is("b 1001", x.worth(0, 0, 1001, 1, 0), NO);
            due.is("b -1001", x.worth(0, 0, -1001, 1, 0), NO);
            due.is("a far off", x.worth(0, HUGE, 0, 1, 0), NO);
            due.is("b far off", x.worth(0, 0, DEEP, 1, 0), NO);
        });
        cases.test("Promise 12: q 1 .. 100", due -> {
            CornerCurves x = new CornerCurves();
            Scenes.put(x, 1, 2, 1);
            due.is("q 1", x.worth(0, 3, 5, 1, 0), 14);
            due.is("q 1, below", x.worth(0, 3, 5, 1, 1), 1);
            due.is("q 100", x.worth(0, 3, 5, 100, 0), 113);
            due.is("q 100, below", x.worth(0, 3, 5, 100, 1), 100);
            due.is("q 0", x.worth(0, 3, 5, 0, 0), NO);
            due.is("q 101", x.worth(0, 3, 5, 101, 0), NO);
            due.is("q -1", x.worth(0, 3, 5, -1, 0), NO);
            due.is("q far off", x.worth(0, 0, 0, DEEP, 1), NO);
        });
        cases.test("Promise 12: what 0, 1", due -> {
            CornerCurves x = new CornerCurves();
            Scenes.put(x, 1, 0, 0);
            due.is("what 0", x.worth(0, 5, 0, 3, 0), 5);
            due.is("what 1", x.worth(0, 5, 0, 3, 1), 3);
            due.is("what 2", x.worth(0, 5, 0, 3, 2), NO);
            due.is("what -1", x.worth(0, 5, 0, 3, -1), NO);
        });
        cases.test("Promise 12: the least of all TERMS, far out at PLACE (8, 8) with 200", due -> {
            CornerCurves x = new CornerCurves();
            int most = Scenes.twoHundred(x, 1);
            int far = x.sum(most, x.power(Scenes.flat(x, 4, 4), 2));
            due.is("at (1000, 1000)", x.worth(far, 1000, 1000, 1, 0), 16200);
            due.is("at (-1000, -1000)", x.worth(far, -1000, -1000, 1, 0), -15800);
            due.is("at (999 / 100, 1 / 100)", x.worth(far, 999, 1, 100, 0), 280);
        });
        cases.test("Promise 12: which TERM is the least changes at the CURVE", due -> {
            CornerCurves x = new CornerCurves();
            Scenes.put(x, 0, 0, 1, 1, 0, 0);
            due.is("before", x.worth(0, 99, 0, 100, 0), 99);
            due.is("on it", x.worth(0, 100, 0, 100, 0), 1);
            due.is("behind", x.worth(0, 101, 0, 100, 0), 1);
            due.is("behind, below", x.worth(0, 101, 0, 100, 1), 1);
        });
        cases.test("Promise 12, NO: no such, no TERMS", due -> {
            CornerCurves x = Scenes.rich();
            due.is("no TERMS", x.worth(4, 0, 0, 1, 0), NO);
            due.is("no FORM 5", x.worth(5, 0, 0, 1, 0), NO);
            due.is("no FORM -1", x.worth(-1, 0, 0, 1, 0), NO);
        });
    }

    private static void leastAt() {
        cases.test("Promise 13: 2 and more on THE CURVE, 1 beside it", due -> {
            CornerCurves x = new CornerCurves();
            Scenes.fork(x);
            due.is("at the CORNER", x.leastAt(0, 0, 0, 1), 3);
            due.is("on a RAY, near", x.leastAt(0, 1, 0, 100), 2);
            due.is("on a RAY, far", x.leastAt(0, 1000, 0, 1), 2);
            due.is("on the RAY down, far", x.leastAt(0, -1000, -1000, 1), 2);
            due.is("beside the RAY, 1/100 off", x.leastAt(0, 1000, 1, 100), 1);
            due.is("beyond the CORNER", x.leastAt(0, 1, 1, 100), 1);
        });
        cases.test("Promise 13: a, b, q at their limits", due -> {
            CornerCurves x = new CornerCurves();
            Scenes.put(x, 0, 0, 0, 1, 0, -10);
            due.is("a 1000, q 100", x.leastAt(0, 1000, -1000, 100), 2);
            due.is("a 999, q 100", x.leastAt(0, 999, 1000, 100), 1);
            due.is("a -1000", x.leastAt(0, -1000, 0, 1), 1);
            int[][] bad = {{1001, 0, 1}, {-1001, 0, 1}, {0, 1001, 1}, {0, -1001, 1}, {0, 0, 0}, {0, 0, 101}, {0, 0, -1},
                {HUGE, 0, 1}, {0, DEEP, 1}, {0, 0, HUGE}};
            for (int[] b : bad) {
                due.is("beyond", x.leastAt(0, b[0], b[1], b[2]), BAD);
            }
        });
        cases.test("Promise 13: one TERM is LEAST everywhere", due -> {
            CornerCurves x = new CornerCurves();
            Scenes.put(x, 4, 4, 20);
            due.is("here", x.leastAt(0, 0, 0, 1), 1);
            due.is("there", x.leastAt(0, -1000, 1000, 100), 1);
        });
        cases.test("Promise 13, BAD: no such, no TERMS", due -> {
            CornerCurves x = Scenes.rich();
            due.is("no TERMS", x.leastAt(4, 0, 0, 1), BAD);
            due.is("no FORM 5", x.leastAt(5, 0, 0, 1), BAD);
            due.is("no FORM -1", x.leastAt(-1, 0, 0, 1), BAD);
        });
    }

    private static void idleAndSame() {
        cases.test("Promise 14: 1, 0", due -> {
            CornerCurves x = new CornerCurves();
            Scenes.bowl(x);
            due.is("(0, 0)", x.idle(0, 0, 0), 0);
            due.is("(0, 2)", x.idle(0, 0, 2), 0);
            due.is("(1, 0)", x.idle(0, 1, 0), 1);
            due.is("(1, 1)", x.idle(0, 1, 1), 0);
            due.is("(2, 0)", x.idle(0, 2, 0), 0);
        });
        cases.test("Promise 14: as soon as it is lower by one", due -> {
            CornerCurves x = new CornerCurves();
            Scenes.put(x, 0, 0, -20, 4, 0, -20, 1, 0, -20);
            due.is("as low as the others", x.idle(0, 1, 0), 1);
            x.term(0, 0, 0, -19);
            due.is("lower", x.idle(0, 1, 0), 0);
            x.term(0, 1, 0, 20);
            due.is("far above", x.idle(0, 1, 0), 1);
            x.take(0, 4, 0);
            due.is("at the rim", x.idle(0, 1, 0), 0);
        });
        cases.test("Promise 14, BAD: there is none", due -> {
            CornerCurves x = Scenes.rich();
            int[][] at = {{2, 2}, {-1, 0}, {0, -1}, {5, 0}, {9, 9}, {HUGE, DEEP}};
            for (int[] a : at) {
                due.is("none", x.idle(0, a[0], a[1]), BAD);
            }
            due.is("no TERMS", x.idle(4, 0, 0), BAD);
            due.is("no FORM", x.idle(5, 0, 0), BAD);
        });
        cases.test("Promise 15: 1, 0, both ways", due -> {
            CornerCurves x = new CornerCurves();
            Scenes.bowl(x);
            Scenes.put(x, 0, 0, 0, 2, 0, 0, 0, 2, 0, 1, 1, -1);
            Scenes.put(x, 0, 0, 0, 2, 0, 0, 0, 2, 0, 1, 1, 0);
            due.is("an IDLE one less", x.same(0, 1), 1);
            due.is("the other way", x.same(1, 0), 1);
            due.is("one higher by one", x.same(1, 2), 0);
            due.is("the other way", x.same(2, 1), 0);
            due.is("itself", x.same(0, 0), 1);
        });
        cases.test("Promise 15: one has a TERM more that is not IDLE", due -> {
            CornerCurves x = new CornerCurves();
            Scenes.fork(x);
            Scenes.put(x, 0, 0, 0, 1, 0, 0, 0, 1, 0, 4, 4, 20);
            due.is("the less with the more", x.same(0, 1), 0);
            due.is("the more with the less", x.same(1, 0), 0);
        });
        cases.test("Promise 15: a TERM that is IDLE in the one alone", due -> {
            CornerCurves x = new CornerCurves();
            Scenes.put(x, 0, 0, 0, 1, 0, 5, 2, 0, 0);
            Scenes.put(x, 1, 0, 5, 2, 0, 0);
            due.is("the one", x.same(0, 1), 0);
            due.is("the other way", x.same(1, 0), 0);
        });
    }

    private static void edge() {
        cases.test("Promise 16: what 0 .. 7", due -> {
            CornerCurves x = new CornerCurves();
            Scenes.put(x, 1, 4, 3, 3, 0, -2);
            int[] want = {2, 1, 2, 3, 1, 4, 3, 0};
            for (int what = 0; what < 8; what++) {
                due.is("what " + what, x.edge(0, 0, what), want[what]);
            }
            due.is("what -1", x.edge(0, 0, -1), NO_NUMBER);
            due.is("what 8", x.edge(0, 0, 8), NO_NUMBER);
        });
        cases.test("Promise 16: EDGES from 0 to the last", due -> {
            CornerCurves x = new CornerCurves();
            Scenes.fork(x);
            int[][] want = {{-1, 0, 1, 2, 0, 0, 0, 1}, {0, 1, 1, 2, 0, 0, 1, 0}, {1, 1, 1, 2, 0, 1, 1, 0}};
            for (int e = 0; e < 3; e++) {
                for (int what = 0; what < 8; what++) {
                    due.is("EDGE " + e + ", " + what, x.edge(0, e, what), want[e][what]);
                }
            }
            for (int e : new int[] {-1, 3, HUGE, DEEP}) {
                due.is("EDGE " + e, x.edge(0, e, 0), NO_NUMBER);
            }
        });
        cases.test("Promise 16, -100000: no such FORM, one without TERMS, one of one", due -> {
            CornerCurves x = Scenes.rich();
            Scenes.put(x, 1, 1, 1);
            for (int f : new int[] {-1, 4, 5, 6, HUGE, DEEP}) {
                due.is("FORM " + f, x.edge(f, 0, 0), NO_NUMBER);
            }
        });
    }

    private static void end() {
        cases.test("Promise 17: way 0, 1 and what 0 .. 3", due -> {
            CornerCurves x = new CornerCurves();
            Scenes.put(x, 0, 0, 0, 4, 0, -6, 0, 3, 4, 4, 3, 0);
            due.is("a SIDE", x.edge(0, 2, 3), 1);
            long[][] want = {{1, 1, -2, 1}, {3, 2, -4, 3}};
            for (int what = 0; what < 4; what++) {
                due.is("first, what " + what, x.end(0, 2, 0, what), want[0][what]);
                due.is("last, what " + what, x.end(0, 2, 1, what), want[1][what]);
            }
            due.is("way -1", x.end(0, 2, -1, 0), NO);
            due.is("way 2", x.end(0, 2, 2, 0), NO);
            due.is("what -1", x.end(0, 2, 0, -1), NO);
            due.is("what 4", x.end(0, 2, 0, 4), NO);
            due.is("way far off", x.end(0, 2, HUGE, 0), NO);
            due.is("what far off", x.end(0, 2, 0, DEEP), NO);
        });
        cases.test("Promise 17, NO: there is none", due -> {
            CornerCurves x = new CornerCurves();
            Scenes.fork(x);
            for (int what = 0; what < 4; what++) {
                due.is("a RAY's first", x.end(0, 0, 0, what), NO);
                due.is("a RAY's last", x.end(0, 1, 1, what), NO);
            }
        });
        cases.test("Promise 17, NO: no such EDGE or FORM", due -> {
            CornerCurves x = Scenes.rich();
            for (int e : new int[] {-1, 5, HUGE, DEEP}) {
                due.is("EDGE " + e, x.end(0, e, 1, 0), NO);
            }
            for (int f : new int[] {-1, 4, 5, HUGE, DEEP}) {
                due.is("FORM " + f, x.end(f, 0, 1, 0), NO);
            }
        });
    }

    private static void corner() {
        cases.test("Promise 18: what 0 .. 6", due -> {
            CornerCurves x = new CornerCurves();
            Scenes.put(x, 0, 0, 0, 4, 0, -6, 0, 3, 4);
            long[] want = {3, 2, -4, 3, 3, 12, 3};
            for (int what = 0; what < 7; what++) {
                due.is("what " + what, x.corner(0, 0, what), want[what]);
            }
            due.is("what -1", x.corner(0, 0, -1), NO);
            due.is("what 7", x.corner(0, 0, 7), NO);
            due.is("what far off", x.corner(0, 0, HUGE), NO);
        });
        cases.test("Promise 18: TERMS that are LEAST there, IDLE ones too; EDGES that have it", due -> {
            CornerCurves x = new CornerCurves();
            Scenes.flat(x, 0, 0, 2, 0, 0, 2, 1, 0, 0, 1, 1, 1);
            due.is("TERMS", x.corner(0, 0, 4), 6);
            due.is("AREA", x.corner(0, 0, 5), 4);
            due.is("EDGES", x.corner(0, 0, 6), 3);
        });
        cases.test("Promise 18: each CORNER has its own", due -> {
            CornerCurves x = new CornerCurves();
            Scenes.put(x, 0, 0, 0, 4, 0, 20, 0, 4, 20, 1, 0, 0, 0, 1, 0);
            long[][] want = {{-20, 3, -20, 3, 4, 15, 4}, {0, 1, 0, 1, 3, 1, 3}};
            due.is("CORNERS", x.told(0, 3), 2);
            for (int what = 0; what < 7; what++) {
                due.is("CORNER 0, " + what, x.corner(0, 0, what), want[0][what]);
                due.is("CORNER 1, " + what, x.corner(0, 1, what), want[1][what]);
                due.is("CORNER 0 again, " + what, x.corner(0, 0, what), want[0][what]);
            }
        });
        cases.test("Promise 18, NO: no such CORNER", due -> {
            CornerCurves x = Scenes.rich();
            for (int c : new int[] {-1, 2, HUGE, DEEP}) {
                for (int what = 0; what < 7; what++) {
                    due.is("CORNER " + c + ", " + what, x.corner(0, c, what), NO);
                }
            }
            due.is("of a LINE", x.corner(Scenes.flat(x, 0, 0, 1, 0), 0, 0), NO);
            due.is("without TERMS", x.corner(4, 0, 0), NO);
            due.is("no FORM", x.corner(6, 0, 0), NO);
            due.is("no FORM", x.corner(-1, 0, 0), NO);
        });
    }

    private static void amount() {
        cases.test("Promise 19: from 0 to the greatest, 64", due -> {
            CornerCurves x = new CornerCurves();
            int all = Scenes.flat(x, 0, 0, 4, 0, 0, 4, 4, 4);
            due.is("4 by 4 with itself", x.amount(all, all), 32);
            due.is("8 by 8 with a point at (0, 0)", x.amount(x.power(all, 2), Scenes.dot(x, 3)), 0);
            due.is("a point with itself", x.amount(2, 2), 0);
            int level = x.power(Scenes.flat(x, 0, 0, 4, 0), 2);
            int upright = x.power(Scenes.flat(x, 0, 0, 0, 4), 2);
            due.is("stretches of 8", x.amount(level, upright), 64);
            due.is("the other way", x.amount(upright, level), 64);
            due.is("a stretch and 4 by 4", x.amount(upright, Scenes.flat(x, 0, 0, 4, 0, 4, 0)), 32);
        });
        cases.test("Promise 19, STATE: one has no TERMS", due -> {
            CornerCurves x = Scenes.rich();
            due.is("the first", x.amount(4, 0), STATE);
            due.is("the second", x.amount(0, 4), STATE);
            due.is("both", x.amount(4, 4), STATE);
        });
        cases.test("Promise 19, STATE: their SUM has a PLACE beyond 8", due -> {
            CornerCurves x = new CornerCurves();
            int level = x.power(Scenes.flat(x, 0, 0, 4, 0), 2);
            int upright = x.power(Scenes.flat(x, 0, 0, 0, 4), 2);
            due.is("8 and 8 across", x.amount(level, upright), 64);
            int one = Scenes.flat(x, 0, 0, 1, 0);
            due.is("i 9", x.amount(level, one), STATE);
            due.is("i 9, the other way", x.amount(one, level), STATE);
            due.is("j 8", x.amount(upright, one), 8);
            int up = Scenes.flat(x, 0, 0, 0, 1);
            due.is("j 9", x.amount(up, upright), STATE);
            due.is("i 8", x.amount(up, level), 8);
        });
        cases.test("Promise 19: what NUMBERS or how many TERMS the SUM has doesn't matter", due -> {
            CornerCurves x = Scenes.crowd();
            due.is("41 TERMS", x.amount(1, 2), x.amount(2, 1));
            due.is("41 TERMS", x.amount(1, 2) >= 0 ? 1 : 0, 1);
            CornerCurves y = Scenes.far();
            due.is("400", y.amount(4, 4), 0);
        });
        cases.test("Promise 19: IDLE TERMS count for THE SHAPE alone", due -> {
            CornerCurves x = new CornerCurves();
            int a = Scenes.put(x, 0, 0, 0, 2, 0, 0, 0, 2, 0);
            int b = Scenes.put(x, 0, 0, 0, 2, 0, 0, 0, 2, 0, 1, 0, 20, 1, 1, 20);
            due.is("as without them", x.amount(b, b), x.amount(a, a));
            due.is("4", x.amount(a, b), 4);
        });
    }

    private static void meets() {
        cases.test("Promise 20: none, one, many", due -> {
            CornerCurves x = new CornerCurves();
            Scenes.fork(x);
            due.is("with a FORM without TERMS", x.meets(0, x.form()), 0);
            due.is("with one of one TERM", x.meets(0, Scenes.put(x, 2, 2, 2)), 0);
            due.is("with itself MOVED", x.meets(0, x.move(0, 3, 1)), 1);
            due.is("with a LINE", x.meets(0, Scenes.put(x, 0, 0, 0, 0, 1, 5)), 1);
            due.is("with a LINE that crosses two RAYS", x.meets(0, Scenes.put(x, 1, 0, 0, 0, 1, 0, 2, 2, 20)), STATE);
        });
        cases.test("Promise 20: as many as there can be of 9 and 9 TERMS", due -> {
            CornerCurves x = new CornerCurves();
            Scenes.put(x, 0, 0, 6, 1, 0, 1, 2, 0, -1, 3, 0, 1, 4, 0, 6);
            x.move(0, 9, 0);
            int wide = x.sum(0, 1);
            Scenes.put(x, 0, 0, 6, 0, 1, 1, 0, 2, -1, 0, 3, 1, 0, 4, 6);
            x.move(3, 0, 9);
            int tall = x.sum(3, 4);
            due.is("ROOTS", x.told(wide, 9), 8);
            due.is("LINES", x.told(tall, 9), 8);
            due.is("MEETS", x.meets(wide, tall), 64);
            due.is("the last", x.meet(wide, tall, 63, 4), 1);
            due.is("its x", x.meet(wide, tall, 63, 0), x.root(wide, 7, 0));
            due.is("the first's x", x.meet(tall, wide, 0, 0), x.root(wide, 0, 0));
            due.is("none behind", x.meet(wide, tall, 64, 0), NO);
            due.is("THE AMOUNT", x.amount(wide, tall), 64);
        });
        cases.test("Promise 20: more of two lattices than their SUM would have room for", due -> {
            CornerCurves x = new CornerCurves();
            Scenes.put(x, 0, 0, 0, 1, 0, -6, 2, 0, -8, 3, 0, -6, 4, 0, 0);
            Scenes.put(x, 0, 0, 0, 1, 0, -4, 2, 0, -4, 3, 0, 0);
            x.sum(0, 1);
            Scenes.put(x, 0, 0, 0, 0, 1, -3, 0, 2, -4, 0, 3, -3, 0, 4, 0);
            int wide = x.sum(2, 3);
            Scenes.put(x, 0, 0, 0, 0, 1, -6, 0, 2, -8, 0, 3, -6, 0, 4, 0);
            Scenes.put(x, 0, 0, 0, 0, 1, -4, 0, 2, -4, 0, 3, 0);
            x.sum(5, 6);
            Scenes.put(x, 0, 0, 0, 1, 0, -7, 2, 0, -8, 3, 0, -7, 4, 0, 0);
            int tall = x.sum(7, 8);
            due.is("7 times 7 and 4 times 4", x.meets(wide, tall), 65);
            due.is("the other way", x.meets(tall, wide), 65);
            long[] first = {-7, 1, -3, 1, 1};
            long[] last = {7, 1, 3, 1, 1};
            for (int what = 0; what < 5; what++) {
                due.is("the first, " + what, x.meet(wide, tall, 0, what), first[what]);
                due.is("the last, " + what, x.meet(wide, tall, 64, what), last[what]);
            }
            due.is("none behind", x.meet(wide, tall, 65, 0), NO);
            due.is("THE AMOUNT", x.amount(wide, tall), STATE);
        });
        cases.test("Promise 20, STATE: they do not CROSS WELL", due -> {
            CornerCurves x = new CornerCurves();
            Scenes.fork(x);
            due.is("with itself", x.meets(0, 0), STATE);
            due.is("a CORNER on the other", x.meets(0, Scenes.flat(x, 1, 0, 0, 2)), STATE);
            due.is("one LINE twice", x.meets(Scenes.flat(x, 0, 0, 1, 2), Scenes.flat(x, 0, 0, 2, 4)), STATE);
        });
        cases.test("Promise 20: what was told before about others doesn't matter", due -> {
            CornerCurves x = new CornerCurves();
            Scenes.fork(x);
            x.move(0, 3, 1);
            due.is("one", x.meets(0, 1), 1);
            due.is("not", x.meets(0, 0), STATE);
            due.is("one still", x.meets(1, 0), 1);
            due.is("at y", x.meet(0, 1, 0, 2), -1);
            x.term(0, 1, 0, 5);
            due.is("other TERMS, at x", x.meet(0, 1, 0, 0), -3);
            due.is("at y", x.meet(0, 1, 0, 2), 0);
        });
    }

    private static void meet() {
        cases.test("Promise 21: what 0 .. 4", due -> {
            CornerCurves x = new CornerCurves();
            Scenes.put(x, 0, 0, 6, 4, 0, 0);
            Scenes.put(x, 0, 0, 0, 0, 4, 2);
            long[] want = {3, 2, -1, 2, 16};
            for (int what = 0; what < 5; what++) {
                due.is("what " + what, x.meet(0, 1, 0, what), want[what]);
            }
            due.is("what -1", x.meet(0, 1, 0, -1), NO);
            due.is("what 5", x.meet(0, 1, 0, 5), NO);
            due.is("what far off", x.meet(0, 1, 0, HUGE), NO);
        });
        cases.test("Promise 21, NO: no such MEET", due -> {
            CornerCurves x = new CornerCurves();
            Scenes.fork(x);
            x.move(0, 3, 1);
            due.is("MEET 0", x.meet(0, 1, 0, 4), 1);
            for (int i : new int[] {-1, 1, HUGE, DEEP}) {
                due.is("MEET " + i, x.meet(0, 1, i, 4), NO);
            }
            due.is("none with one without TERMS", x.meet(0, x.form(), 0, 0), NO);
        });
        cases.test("Promise 21, NO: no such FORM, they do not CROSS WELL", due -> {
            CornerCurves x = new CornerCurves();
            Scenes.fork(x);
            x.move(0, 3, 1);
            for (int f : new int[] {-1, 2, HUGE, DEEP}) {
                due.is("first " + f, x.meet(f, 0, 0, 0), NO);
                due.is("second " + f, x.meet(0, f, 0, 0), NO);
            }
            due.is("with itself", x.meet(0, 0, 0, 0), NO);
        });
    }

    private static void root() {
        cases.test("Promise 22: none, one, eight", due -> {
            CornerCurves x = new CornerCurves();
            Scenes.put(x, 3, 0, 7);
            due.is("of one TERM none", x.root(0, 0, 0), NO);
            x.term(0, 4, 0, 2);
            due.is("of two TERMS one", x.root(0, 0, 0), 5);
            due.is("and no more", x.root(0, 1, 0), NO);
            Scenes.put(x, 0, 0, 6, 1, 0, 1, 2, 0, -1, 3, 0, 1, 4, 0, 6);
            x.move(1, 9, 0);
            int wide = x.sum(1, 2);
            int[] at = {-14, -11, -7, -5, -4, -2, 2, 5};
            for (int i = 0; i < 8; i++) {
                due.is("ROOT " + i, x.root(wide, i, 0), at[i]);
            }
        });
        cases.test("Promise 22: what 0 .. 2", due -> {
            CornerCurves x = new CornerCurves();
            Scenes.put(x, 0, 0, -5, 2, 0, 0);
            due.is("what 0", x.root(0, 0, 0), -5);
            due.is("what 1", x.root(0, 0, 1), 2);
            due.is("what 2", x.root(0, 0, 2), 2);
            due.is("what 3", x.root(0, 0, 3), NO);
            due.is("what -1", x.root(0, 0, -1), NO);
        });
        cases.test("Promise 22, NO: no such ROOT or FORM", due -> {
            CornerCurves x = new CornerCurves();
            Scenes.put(x, 0, 0, 0, 1, 0, 0);
            for (int i : new int[] {-1, 1, HUGE, DEEP}) {
                due.is("ROOT " + i, x.root(0, i, 0), NO);
            }
            for (int f : new int[] {-1, 1, HUGE, DEEP}) {
                due.is("FORM " + f, x.root(f, 0, 0), NO);
            }
            due.is("without TERMS", x.root(x.form(), 0, 0), NO);
        });
        cases.test("Promise 22, NO: it is not of one letter", due -> {
            CornerCurves x = new CornerCurves();
            Scenes.fork(x);
            due.is("both letters", x.root(0, 0, 0), NO);
            due.is("the other letter", x.root(Scenes.flat(x, 0, 0, 0, 1), 0, 0), NO);
            due.is("the last alone", x.root(Scenes.flat(x, 0, 0, 1, 0, 2, 1), 0, 0), NO);
            due.is("the first alone", x.root(Scenes.flat(x, 0, 1, 1, 0, 2, 0), 0, 0), NO);
            due.is("both points of a LINE", x.root(Scenes.flat(x, 0, 1, 1, 0), 0, 0), NO);
        });
        cases.test("Promise 22: as soon as it is of one letter", due -> {
            CornerCurves x = new CornerCurves();
            Scenes.flat(x, 0, 0, 1, 0, 4, 1);
            due.is("not yet", x.root(0, 0, 0), NO);
            due.is("take the last", x.take(0, 4, 1), 2);
            due.is("now", x.root(0, 0, 2), 1);
        });
        cases.test("Promise 22: of all KINDS", due -> {
            CornerCurves x = new CornerCurves();
            Scenes.put(x, 0, 0, 3, 1, 0, 0);
            due.is("a POWER", x.root(x.power(0, 4), 0, 2), 4);
            due.is("a SUM", x.root(x.sum(0, 0), 0, 0), 3);
            x.sheet(0, 0, 9);
            x.cell(0, 0, 4);
            x.cell(0, 3, 1);
            due.is("a HIDDEN one", x.root(x.hide(0, 0, 0, 2), 0, 0), 2);
        });
    }
}
