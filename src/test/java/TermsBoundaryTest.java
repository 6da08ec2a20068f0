/** "Terms": a test for each sentence that names a boundary. What a call refuses is in RefusalsTest. */
public final class TermsBoundaryTest {
    private static final int FULL = Scenes.FULL, NO_NUMBER = Scenes.NO_NUMBER;
    private static final long NO = Scenes.NO;
    private static final Cases cases = new Cases();

    public static void main(String[] args) {
        formsAndPlaces();
        fractions();
        edges();
        endsTerms();
        kindsOfEdges();
        corners();
        shapes();
        idleAndSame();
        made();
        crossWell();
        rootsAndRows();
        acts();
        cases.close();
    }

    private static void formsAndPlaces() {
        cases.test("Terms: FORMS are 10 at most, of whatever KIND they are", due -> {
            CornerCurves x = Scenes.full();
            due.is("form", x.form(), FULL);
            due.is("sum", x.sum(4, 4), FULL);
            due.is("power", x.power(4, 1), FULL);
            due.is("move", x.move(4, 0, 0), FULL);
            due.is("hide", x.hide(2, 2, 0, 2), FULL);
            due.is("how many", x.count(0), 10);
        });
        cases.test("Terms: FORMS are numbered from 0 as they come", due -> {
            CornerCurves x = new CornerCurves();
            x.sheet(0, 0, 9);
            due.is("form", x.form(), 0);
            due.is("sum", x.sum(0, 0), 1);
            due.is("power", x.power(0, 1), 2);
            due.is("move", x.move(0, 0, 0), 3);
            due.is("hide", x.hide(0, 0, 0, 2), 4);
            due.is("form", x.form(), 5);
        });
        cases.test("Terms: a PLACE is two whole numbers 0 .. 8", due -> {
            CornerCurves x = new CornerCurves();
            Scenes.flat(x, 0, 0, 4, 0, 0, 4, 4, 4);
            x.power(0, 2);
            due.is("(0, 0)", x.number(1, 0, 0), 0);
            due.is("(8, 0)", x.number(1, 8, 0), 0);
            due.is("(0, 8)", x.number(1, 0, 8), 0);
            due.is("(8, 8)", x.number(1, 8, 8), 0);
            due.is("(9, 0)", x.number(1, 9, 0), NO_NUMBER);
            due.is("(0, 9)", x.number(1, 0, 9), NO_NUMBER);
            due.is("(-1, 8)", x.number(1, -1, 8), NO_NUMBER);
            due.is("(0, 0) is no (8, -9)", x.number(1, 8, -9), NO_NUMBER);
            due.is("AREA", x.told(1, 4), 128);
        });
        cases.test("Terms: no two TERMS have one PLACE", due -> {
            CornerCurves x = new CornerCurves();
            Scenes.put(x, 1, 1, 4, 1, 1, 5);
            due.is("told twice", x.told(0, 1), 1);
            Scenes.put(x, 0, 0, 0, 1, 0, 9, 2, 0, 1);
            due.is("come twice in a SUM", x.told(x.sum(1, 1), 1), 5);
        });
        cases.test("Terms: all TERMS that are worth the least are LEAST", due -> {
            CornerCurves x = Scenes.crowd();
            x.sum(4, 5);
            due.is("40 at (0, 0)", x.leastAt(6, 0, 0, 1), 40);
            due.is("one far off", x.leastAt(6, 1000, 999, 1), 1);
            due.is("8 of a FORM", x.leastAt(4, 0, 0, 1), 8);
        });
        cases.test("Terms 1: a FORM is without TERMS at first", due -> {
            CornerCurves x = new CornerCurves();
            x.form();
            due.is("TERMS", x.told(0, 1), 0);
            for (int place = 0; place < 25; place++) {
                due.is("PLACE " + place, x.number(0, place / 5, place % 5), NO_NUMBER);
            }
        });
        cases.test("Terms 1: all FORMS stand for themselves", due -> {
            CornerCurves x = Scenes.fourKinds();
            x.move(0, 1, 1);
            x.power(1, 2);
            int[] terms = {3, 6, 3, 2, 3, 15};
            x.term(0, 0, 0, -9);
            x.take(0, 1, 0);
            x.cell(0, 0, 8);
            for (int f = 1; f < 6; f++) {
                due.is("TERMS of " + f, x.told(f, 1), terms[f]);
                due.is("(0, 0) of " + f, x.number(f, 0, 0), 0);
            }
        });
        cases.test("Terms: NONE and NO", due -> {
            due.is("NONE", CornerCurves.NONE, -1);
            due.is("BAD", CornerCurves.BAD, -2);
            due.is("STATE", CornerCurves.STATE, -3);
            due.is("FULL", CornerCurves.FULL, -4);
            due.is("NO", CornerCurves.NO, -4611686018427387904L);
        });
    }

    /** above / below of what a FORM of one TERM is worth. */
    private static void worth(Due due, int[] term, int[] at, long above, long below) {
        CornerCurves x = new CornerCurves();
        Scenes.put(x, term);
        due.is("above", x.worth(0, at[0], at[1], at[2], 0), above);
        due.is("below", x.worth(0, at[0], at[1], at[2], 1), below);
    }

    private static void fractions() {
        cases.test("Terms: FRACTIONS are told in lowest terms", due -> {
            worth(due, new int[] {1, 0, 0}, new int[] {6, 0, 4}, 3, 2);
            worth(due, new int[] {1, 0, 0}, new int[] {100, 0, 100}, 1, 1);
            worth(due, new int[] {1, 1, 0}, new int[] {1, 1, 6}, 1, 3);
            worth(due, new int[] {2, 3, 1}, new int[] {1, 1, 100}, 21, 20);
            worth(due, new int[] {1, 1, 0}, new int[] {1, 2, 3}, 1, 1);
        });
        cases.test("Terms: FRACTIONS have below the line above 0", due -> {
            worth(due, new int[] {1, 0, 0}, new int[] {-6, 0, 4}, -3, 2);
            worth(due, new int[] {1, 0, -1}, new int[] {1, 0, 100}, -99, 100);
            worth(due, new int[] {0, 0, -20}, new int[] {7, 7, 100}, -20, 1);
        });
        cases.test("Terms: a FRACTION of 0 is 0 above 1", due -> {
            worth(due, new int[] {1, 0, 0}, new int[] {0, 7, 100}, 0, 1);
            worth(due, new int[] {1, 1, 0}, new int[] {7, -7, 100}, 0, 1);
            worth(due, new int[] {2, 0, -1}, new int[] {50, 3, 100}, 0, 1);
        });
        cases.test("Terms: FRACTIONS of points, each coordinate by itself", due -> {
            CornerCurves x = new CornerCurves();
            Scenes.put(x, 0, 0, 0, 4, 0, -6, 0, 3, 4);
            long[] want = {3, 2, -4, 3};
            for (int what = 0; what < 4; what++) {
                due.is("CORNER, " + what, x.corner(0, 0, what), want[what]);
                due.is("last of EDGE 0, " + what, x.end(0, 0, 1, what), want[what]);
                due.is("first of EDGE 1, " + what, x.end(0, 1, 0, what), want[what]);
            }
            x.write(0);
            for (int k = 0; k < 4; k++) {
                due.is("row " + k, x.row(12 + k), want[k]);
            }
        });
        cases.test("Terms: FRACTIONS of MEETS and ROOTS", due -> {
            CornerCurves x = new CornerCurves();
            Scenes.put(x, 0, 0, 6, 4, 0, 0);
            Scenes.put(x, 0, 0, 0, 0, 4, 2);
            long[] want = {3, 2, -1, 2, 16};
            for (int what = 0; what < 5; what++) {
                due.is("MEET, " + what, x.meet(0, 1, 0, what), want[what]);
            }
            due.is("ROOT above", x.root(0, 0, 0), 3);
            due.is("ROOT below", x.root(0, 0, 1), 2);
        });
    }

    private static void edges() {
        cases.test("Terms 1: an EDGE has more than one point", due -> {
            CornerCurves x = new CornerCurves();
            Scenes.flat(x, 0, 0, 1, 0, 0, 1, 1, 1);
            due.is("(0, 0), (1, 1) and (0, 1), (1, 0) share a point alone", x.told(0, 2), 4);
            due.is("four RAYS", x.told(0, 8), 4);
            x.term(0, 1, 1, -1);
            due.is("now (0, 0) and (1, 1) share a SIDE", x.told(0, 7), 1);
            due.is("EDGES", x.told(0, 2), 5);
            due.is("it is the second", x.edge(0, 1, 6), 1);
        });
        cases.test("Terms 1: an EDGE is a greatest stretch", due -> {
            CornerCurves x = new CornerCurves();
            Scenes.put(x, 0, 0, 0, 1, 1, 0, 2, 2, 0, 3, 3, 20, 4, 4, 0);
            due.is("four TERMS on one LINE make one EDGE", x.told(0, 2), 1);
            due.is("a LINE", x.told(0, 9), 1);
            due.is("no CORNER", x.told(0, 3), 0);
        });
        cases.test("Terms 1: two TERMS or more: one TERM makes no CURVE", due -> {
            CornerCurves x = new CornerCurves();
            x.form();
            due.is("EDGES of none", x.told(0, 2), 0);
            x.term(0, 4, 4, 20);
            due.is("EDGES of one", x.told(0, 2), 0);
            due.is("CORNERS of one", x.told(0, 3), 0);
            x.term(0, 4, 3, -20);
            due.is("EDGES of two", x.told(0, 2), 1);
            due.is("CORNERS of two", x.told(0, 3), 0);
        });
        cases.test("Terms 1: at all points the same TERMS, but for its ends", due -> {
            CornerCurves x = new CornerCurves();
            Scenes.bowl(x);
            due.is("at the first point of the SIDE", x.leastAt(0, 1, 0, 1), 3);
            due.is("at the last", x.leastAt(0, 0, 1, 1), 3);
            due.is("between", x.leastAt(0, 1, 1, 2), 2);
            due.is("near an end", x.leastAt(0, 1, 99, 100), 2);
            due.is("beyond the end", x.leastAt(0, -1, 101, 100), 1);
        });
    }

    private static void endsTerms() {
        cases.test("Terms 1: ENDS TERMS have the least and the greatest PLACE, by i, then by j", due -> {
            CornerCurves x = new CornerCurves();
            Scenes.flat(x, 3, 2, 3, 4, 3, 0, 3, 3);
            int[] up = {-1, 0, 4, 3, 3, 0, 3, 4};
            Scenes.flat(x, 2, 2, 0, 4, 3, 1, 1, 3);
            int[] down = {1, 1, 3, 3, 0, 4, 3, 1};
            Scenes.flat(x, 4, 1, 0, 1, 2, 1);
            int[] across = {0, 1, 4, 3, 0, 1, 4, 1};
            for (int what = 0; what < 8; what++) {
                due.is("up, " + what, x.edge(0, 0, what), up[what]);
                due.is("down, " + what, x.edge(1, 0, what), down[what]);
                due.is("across, " + what, x.edge(2, 0, what), across[what]);
            }
        });
        cases.test("Terms 1: a TERM that is not LEAST on the EDGE is no ENDS TERM", due -> {
            CornerCurves x = new CornerCurves();
            Scenes.put(x, 0, 0, 0, 2, 0, 0, 1, 0, 3, 4, 0, 9);
            due.is("the first EDGE from", x.edge(0, 0, 4), 0);
            due.is("to", x.edge(0, 0, 6), 2);
            due.is("the second EDGE from", x.edge(0, 1, 4), 2);
            due.is("to", x.edge(0, 1, 6), 4);
        });
        cases.test("Terms 1: DIRECTION (-q by g, p by g), WEIGHT g", due -> {
            int[][] pairs = {{0, 0, 0, 1, -1, 0, 1}, {0, 0, 1, 0, 0, 1, 1}, {0, 1, 1, 0, 1, 1, 1}, {0, 0, 1, 1, -1, 1, 1},
                {0, 4, 4, 0, 1, 1, 4}, {0, 0, 4, 2, -1, 2, 2}, {0, 3, 2, 0, 3, 2, 1}, {1, 4, 3, 0, 2, 1, 2},
                {0, 0, 0, 4, -1, 0, 4}, {0, 0, 3, 0, 0, 1, 3}, {1, 1, 4, 4, -1, 1, 3}, {0, 1, 4, 4, -3, 4, 1}};
            for (int[] p : pairs) {
                CornerCurves x = new CornerCurves();
                Scenes.flat(x, p[2], p[3], p[0], p[1]);
                for (int what = 0; what < 3; what++) {
                    due.is("(" + p[0] + ", " + p[1] + "), (" + p[2] + ", " + p[3] + "): " + what,
                            x.edge(0, 0, what), p[4 + what]);
                }
            }
        });
        cases.test("Terms 1: WEIGHT up to 8", due -> {
            CornerCurves x = new CornerCurves();
            Scenes.flat(x, 0, 4, 4, 0);
            x.power(0, 2);
            due.is("WEIGHT", x.edge(1, 0, 2), 8);
            due.is("a", x.edge(1, 0, 0), 1);
            due.is("b", x.edge(1, 0, 1), 1);
        });
        cases.test("Terms 1: EDGES are numbered by the former ENDS TERM's PLACE, then the latter's", due -> {
            CornerCurves x = new CornerCurves();
            Scenes.flat(x, 1, 2, 2, 1, 1, 1, 0, 0);
            x.term(0, 1, 1, -2);
            int[][] want = {{0, 0, 1, 1}, {0, 0, 1, 2}, {0, 0, 2, 1}, {1, 1, 1, 2}, {1, 1, 2, 1}, {1, 2, 2, 1}};
            due.is("EDGES", x.told(0, 2), 6);
            for (int e = 0; e < 6; e++) {
                for (int k = 0; k < 4; k++) {
                    due.is("EDGE " + e + ", " + (4 + k), x.edge(0, e, 4 + k), want[e][k]);
                }
            }
        });
    }

    private static void kindsOfEdges() {
        cases.test("Terms 1: a SIDE has a first and a last point", due -> {
            CornerCurves x = new CornerCurves();
            Scenes.bowl(x);
            due.is("KIND", x.edge(0, 1, 3), 1);
            due.is("first x", x.end(0, 1, 0, 0), 1);
            due.is("first y", x.end(0, 1, 0, 2), 0);
            due.is("last x", x.end(0, 1, 1, 0), 0);
            due.is("last y", x.end(0, 1, 1, 2), 1);
        });
        cases.test("Terms 1: a RAY has one of them", due -> {
            CornerCurves x = new CornerCurves();
            Scenes.fork(x);
            long[][] ends = {{NO, 0}, {0, NO}, {NO, 0}};
            for (int e = 0; e < 3; e++) {
                due.is("KIND", x.edge(0, e, 3), 2);
                due.is("first of " + e, x.end(0, e, 0, 0), ends[e][0]);
                due.is("last of " + e, x.end(0, e, 1, 0), ends[e][1]);
            }
        });
        cases.test("Terms 1: a LINE has none", due -> {
            CornerCurves x = new CornerCurves();
            Scenes.put(x, 0, 0, 0, 4, 3, 20);
            due.is("KIND", x.edge(0, 0, 3), 3);
            for (int what = 0; what < 4; what++) {
                due.is("first", x.end(0, 0, 0, what), NO);
                due.is("last", x.end(0, 0, 1, what), NO);
            }
        });
        cases.test("Terms 1: from the first point one goes by the DIRECTION to the last", due -> {
            CornerCurves x = new CornerCurves();
            Scenes.put(x, 0, 0, 0, 1, 0, 0, 0, 1, 0, 1, 1, 2, 0, 2, 5, 2, 0, 5, 2, 2, 20, 2, 1, 9, 1, 2, 9);
            int sides = 0;
            for (int e = 0; e < x.told(0, 2); e++) {
                if (x.edge(0, e, 3) == 1) {
                    sides++;
                    long dx = x.end(0, e, 1, 0) * x.end(0, e, 0, 1) - x.end(0, e, 0, 0) * x.end(0, e, 1, 1);
                    long dy = x.end(0, e, 1, 2) * x.end(0, e, 0, 3) - x.end(0, e, 0, 2) * x.end(0, e, 1, 3);
                    due.is("the way of " + e, dx * x.edge(0, e, 1), dy * x.edge(0, e, 0));
                    due.is("forwards on " + e, dx * x.edge(0, e, 0) + dy * x.edge(0, e, 1) > 0 ? 1 : 0, 1);
                }
            }
            due.is("SIDES", sides, x.told(0, 7));
            due.is("there are some", sides > 2 ? 1 : 0, 1);
        });
    }

    private static void corners() {
        cases.test("Terms 1: CORNERS are numbered by x, then by y, the least first", due -> {
            CornerCurves x = new CornerCurves();
            Scenes.put(x, 0, 0, 0, 1, 0, 1, 2, 0, 3);
            Scenes.put(x, 0, 0, 0, 0, 1, 4, 0, 2, 9);
            x.sum(0, 1);
            due.is("CORNERS", x.told(2, 3), 4);
            int[][] at = {{-2, -5}, {-2, -4}, {-1, -5}, {-1, -4}};
            for (int c = 0; c < 4; c++) {
                due.is("x of " + c, x.corner(2, c, 0), at[c][0]);
                due.is("y of " + c, x.corner(2, c, 2), at[c][1]);
            }
        });
        cases.test("Terms 1: CORNERS by FRACTIONS: 1/3 before 1/2, -1/2 before -1/3", due -> {
            CornerCurves x = new CornerCurves();
            Scenes.put(x, 0, 0, 0, 3, 0, -1);
            Scenes.put(x, 0, 0, 0, 2, 0, -1);
            Scenes.put(x, 0, 0, 0, 0, 3, 1);
            Scenes.put(x, 0, 0, 0, 0, 2, 1);
            x.sum(0, 1);
            x.sum(2, 3);
            x.sum(4, 5);
            long[][] at = {{1, 3, -1, 2}, {1, 3, -1, 3}, {1, 2, -1, 2}, {1, 2, -1, 3}};
            due.is("CORNERS", x.told(6, 3), 4);
            for (int c = 0; c < 4; c++) {
                for (int what = 0; what < 4; what++) {
                    due.is("CORNER " + c + ", " + what, x.corner(6, c, what), at[c][what]);
                }
            }
        });
        cases.test("Terms 1: a CORNER that many EDGES have is one", due -> {
            CornerCurves x = new CornerCurves();
            Scenes.flat(x, 0, 1, 0, 2, 1, 0, 2, 0, 3, 1, 3, 2, 1, 3, 2, 3);
            due.is("EDGES", x.told(0, 2), 8);
            due.is("CORNERS", x.told(0, 3), 1);
            due.is("EDGES that have it", x.corner(0, 0, 6), 8);
            due.is("AREA of its PART", x.corner(0, 0, 5), 14);
        });
        cases.test("Terms 1: the PART is the ring about the TERMS that are LEAST there alone", due -> {
            CornerCurves x = new CornerCurves();
            Scenes.put(x, 0, 0, 0, 4, 0, 20, 0, 4, 20, 1, 0, 0, 0, 1, 0);
            due.is("CORNERS", x.told(0, 3), 2);
            due.is("AREA of the lower PART", x.corner(0, 0, 5), 15);
            due.is("AREA of the upper PART", x.corner(0, 1, 5), 1);
            due.is("the whole AREA", x.told(0, 4), 16);
        });
    }

    private static void shapes() {
        cases.test("Terms 1: AREA is 0 of none, of a point, of a stretch", due -> {
            CornerCurves x = new CornerCurves();
            x.form();
            due.is("none", x.told(0, 4), 0);
            int[][] places = {{4, 4}, {0, 0}, {2, 2}, {1, 1}, {3, 3}};
            for (int[] p : places) {
                x.term(0, p[0], p[1], 0);
                due.is("a point, then a stretch", x.told(0, 4), 0);
            }
            due.is("upright", x.told(Scenes.flat(x, 3, 0, 3, 4, 3, 2), 4), 0);
            due.is("level", x.told(Scenes.flat(x, 0, 3, 4, 3, 2, 3), 4), 0);
            due.is("falling", x.told(Scenes.flat(x, 0, 4, 4, 0, 2, 2), 4), 0);
        });
        cases.test("Terms 1: AREA is twice the area, from 1 on", due -> {
            CornerCurves x = new CornerCurves();
            due.is("the least", x.told(Scenes.fork(x), 4), 1);
            due.is("a thin one", x.told(Scenes.flat(x, 0, 0, 4, 3, 3, 2), 4), 1);
            due.is("a square", x.told(Scenes.flat(x, 0, 0, 1, 0, 0, 1, 1, 1), 4), 2);
            due.is("all of 4", x.told(Scenes.flat(x, 0, 0, 4, 0, 0, 4, 4, 4), 4), 32);
            due.is("all of 8", x.told(x.power(3, 2), 4), 128);
        });
        cases.test("Terms 1: THE SHAPE is about all PLACES, IDLE ones too", due -> {
            CornerCurves x = new CornerCurves();
            Scenes.put(x, 0, 0, 0, 4, 0, 0, 2, 1, 0);
            due.is("a tip", x.told(0, 4), 4);
            x.term(0, 2, 0, 20);
            x.term(0, 1, 0, 20);
            due.is("IDLE ones", x.told(0, 6), 2);
            due.is("on the rim", x.told(0, 4), 4);
            x.term(0, 2, 4, 20);
            due.is("the tip higher up", x.told(0, 4), 16);
        });
        cases.test("Terms 1: SMOOTH: each CORNER's AREA 1", due -> {
            CornerCurves x = new CornerCurves();
            due.is("1", x.told(Scenes.fork(x), 5), 1);
            int square = Scenes.flat(x, 0, 0, 1, 0, 0, 1, 1, 1);
            due.is("2, all WEIGHTS 1", x.told(square, 5), 0);
            due.is("3, all WEIGHTS 1", x.told(Scenes.flat(x, 0, 0, 2, 1, 1, 2), 5), 0);
            x.term(square, 1, 1, 1);
            due.is("1 and 1", x.told(square, 5), 1);
            x.term(square, 2, 1, 9);
            due.is("1 and 1 and 1", x.told(square, 5), 1);
            x.term(square, 4, 4, 20);
            due.is("one CORNER's is not", x.told(square, 5), 0);
        });
        cases.test("Terms 1: SMOOTH: each EDGE's WEIGHT 1, also without CORNERS", due -> {
            CornerCurves x = new CornerCurves();
            due.is("a LINE of WEIGHT 1", x.told(Scenes.flat(x, 0, 0, 1, 3), 5), 1);
            due.is("of WEIGHT 2", x.told(Scenes.flat(x, 0, 0, 2, 4), 5), 0);
            due.is("LINES of WEIGHTS 1, 2", x.told(Scenes.put(x, 0, 0, 0, 1, 0, 0, 3, 0, 9), 5), 0);
            due.is("LINES of WEIGHTS 1, 1", x.told(Scenes.put(x, 0, 0, 0, 1, 0, 0, 2, 0, 9), 5), 1);
        });
        cases.test("Terms 1: SMOOTH: without EDGES and CORNERS", due -> {
            CornerCurves x = new CornerCurves();
            due.is("without TERMS", x.told(x.form(), 5), 1);
            due.is("one TERM", x.told(Scenes.put(x, 3, 3, 3), 5), 1);
        });
    }

    private static void idleAndSame() {
        cases.test("Terms 1: IDLE: no point at which it alone is LEAST", due -> {
            CornerCurves x = new CornerCurves();
            Scenes.flat(x, 0, 0, 2, 0, 0, 2, 2, 2, 1, 1, 1, 0);
            due.is("LEAST at one point alone, with others", x.idle(0, 1, 1), 1);
            due.is("LEAST along an EDGE, with others", x.idle(0, 1, 0), 1);
            due.is("alone somewhere", x.idle(0, 2, 2), 0);
            x.term(0, 1, 0, -1);
            due.is("now alone somewhere", x.idle(0, 1, 0), 0);
            x.term(0, 1, 0, 1);
            due.is("LEAST nowhere", x.idle(0, 1, 0), 1);
            due.is("how many", x.told(0, 6), 2);
        });
        cases.test("Terms 1: a FORM's only TERM is not IDLE", due -> {
            CornerCurves x = new CornerCurves();
            x.form();
            due.is("none", x.told(0, 6), 0);
            x.term(0, 4, 4, 20);
            due.is("one", x.told(0, 6), 0);
            due.is("idle", x.idle(0, 4, 4), 0);
        });
        cases.test("Terms 1: THE SAME: worth the same at all points", due -> {
            CornerCurves x = new CornerCurves();
            int a = Scenes.put(x, 0, 0, 0, 2, 0, 4);
            due.is("with an IDLE one", x.same(a, Scenes.put(x, 0, 0, 0, 1, 0, 2, 2, 0, 4)), 1);
            due.is("with one that is not", x.same(a, Scenes.put(x, 0, 0, 0, 1, 0, 1, 2, 0, 4)), 0);
            due.is("another NUMBER", x.same(a, Scenes.put(x, 0, 0, 0, 2, 0, 3)), 0);
            due.is("another PLACE", x.same(a, Scenes.put(x, 0, 0, 0, 2, 1, 4)), 0);
            due.is("all one higher", x.same(a, Scenes.put(x, 0, 0, 1, 2, 0, 5)), 0);
            due.is("one TERM of them", x.same(a, Scenes.put(x, 0, 0, 0)), 0);
            due.is("the other way", x.same(6, a), 0);
        });
        cases.test("Terms 1: THE SAME: without TERMS both", due -> {
            CornerCurves x = Scenes.fourKinds();
            int none = x.form();
            int other = x.sum(none, 0);
            due.is("both", x.same(none, other), 1);
            due.is("itself", x.same(none, none), 1);
            for (int f = 0; f < 4; f++) {
                due.is("one of them", x.same(none, f), 0);
                due.is("the other way", x.same(f, none), 0);
            }
        });
        cases.test("Terms 1: THE SAME whatever the KINDS", due -> {
            CornerCurves x = Scenes.fourKinds();
            due.is("FORM and POWER", x.same(0, 2), 1);
            due.is("FORM and MOVED", x.same(0, x.move(0, 0, 0)), 1);
            due.is("SUM and POWER", x.same(1, x.power(0, 2)), 1);
            due.is("FORM and HIDDEN", x.same(3, Scenes.flat(x, 0, 0, 0, 1)), 1);
        });
    }

    private static void made() {
        cases.test("Terms 2: NUMBERS of made FORMS are -200 .. 200", due -> {
            CornerCurves x = Scenes.far();
            due.is("200", x.number(4, 0, 0), 200);
            due.is("180", x.number(x.sum(2, 0), 0, 0), 180);
            due.is("201 and more", x.sum(4, 0), FULL);
            CornerCurves y = new CornerCurves();
            int least = Scenes.twoHundred(y, -1);
            due.is("-200", y.number(least, 0, 0), -200);
            due.is("-201 and less", y.sum(least, 0), FULL);
        });
        cases.test("Terms 2: each PLACE has the least of the sums by which it comes", due -> {
            CornerCurves x = new CornerCurves();
            Scenes.put(x, 0, 0, 0, 1, 0, 0, 0, 1, 0, 1, 1, -7);
            x.sum(0, 0);
            due.is("(1, 1): of 0 + 0, 0 - 7", x.number(1, 1, 1), -7);
            due.is("(2, 2)", x.number(1, 2, 2), -14);
            due.is("(2, 1)", x.number(1, 2, 1), -7);
            due.is("TERMS", x.told(1, 1), 9);
        });
        cases.test("Terms 2: HIDDEN: of each number that is not 0 how often q goes into it", due -> {
            CornerCurves x = new CornerCurves();
            x.sheet(0, 1, 9);
            x.cell(0, 0, 7);
            x.cell(0, 4, 49);
            x.cell(0, 8, -343 * 2);
            x.hide(0, 1, 0, 7);
            due.is("TERMS", x.told(0, 1), 3);
            due.is("7", x.number(0, 0, 0), 1);
            due.is("49", x.number(0, 1, 1), 2);
            due.is("-686", x.number(0, 2, 2), 3);
            due.is("0", x.number(0, 0, 1), NO_NUMBER);
        });
    }

    private static void crossWell() {
        cases.test("Terms 2: CROSS WELL: no CORNER of the one is on the other one", due -> {
            CornerCurves x = new CornerCurves();
            Scenes.fork(x);
            int line = Scenes.flat(x, 1, 0, 0, 2);
            due.is("a CORNER on a LINE", x.meets(0, line), Scenes.STATE);
            due.is("the other way", x.meets(line, 0), Scenes.STATE);
            x.term(line, 0, 2, 1);
            due.is("beside it", x.meets(0, line), 2);
            due.is("a CORNER on a CORNER", x.meets(0, Scenes.flat(x, 0, 0, 2, 1, 1, 2)), Scenes.STATE);
        });
        cases.test("Terms 2: CROSS WELL: no two EDGES have more than one point in common", due -> {
            CornerCurves x = new CornerCurves();
            int line = Scenes.put(x, 0, 0, 0, 0, 1, 5);
            due.is("one LINE", x.meets(line, Scenes.put(x, 1, 0, 0, 1, 2, 10)), Scenes.STATE);
            due.is("LINES side by side", x.meets(line, Scenes.put(x, 1, 0, 0, 1, 2, 9)), 0);
            due.is("with itself", x.meets(line, line), Scenes.STATE);
            int fork = Scenes.fork(x);
            due.is("RAYS of one line, one in the other", x.meets(fork, x.move(fork, 3, 0)), Scenes.STATE);
        });
        cases.test("Terms 2: CROSS WELL: RAYS of one line that are apart", due -> {
            CornerCurves x = new CornerCurves();
            Scenes.fork(x);
            Scenes.put(x, 1, 0, 1, 0, 1, 0, 1, 1, 1);
            due.is("CORNER of the other", x.corner(1, 0, 0), -1);
            due.is("MEETS", x.meets(0, 1), 2);
            long[][] at = {{-1, 1, -1, 1, 1}, {0, 1, 1, 1, 1}};
            for (int i = 0; i < 2; i++) {
                for (int what = 0; what < 5; what++) {
                    due.is("MEET " + i + ", " + what, x.meet(0, 1, i, what), at[i][what]);
                }
            }
            due.is("THE AMOUNT", x.amount(0, 1), 2);
        });
        cases.test("Terms 2: CROSS WELL: a RAY and a SIDE of one line that are apart", due -> {
            CornerCurves x = new CornerCurves();
            Scenes.fork(x);
            int upright = Scenes.put(x, 0, 1, 0, 1, 1, 0, 0, 0, -3, 0, 2, 5);
            int level = Scenes.put(x, 1, 0, 0, 1, 1, 0, 0, 0, -3, 2, 0, 5);
            long[] want = {-3, 2, -3, 2, 2};
            for (int what = 0; what < 5; what++) {
                due.is("below the RAY's first point, " + what, x.meet(0, upright, 0, what), want[what]);
                due.is("the other way, " + what, x.meet(upright, 0, 0, what), want[what]);
                due.is("behind the RAY's last point, " + what, x.meet(0, level, 0, what), want[what]);
                due.is("the other way, " + what, x.meet(level, 0, 0, what), want[what]);
            }
            due.is("MEETS", x.meets(0, upright), 1);
            due.is("MEETS", x.meets(level, 0), 1);
            due.is("THE AMOUNT", x.amount(0, upright), 2);
        });
        cases.test("Terms 2: CROSS WELL: SIDES of one line that are apart", due -> {
            CornerCurves x = new CornerCurves();
            Scenes.put(x, 0, 1, 0, 1, 1, 0, 0, 0, -3, 0, 2, 5);
            x.move(0, 0, -4);
            due.is("a SIDE", x.told(0, 7), 1);
            due.is("MEETS", x.meets(0, 1), 1);
            due.is("MEETS, the other way", x.meets(1, 0), 1);
            long[] want = {-1, 1, -2, 1, 2};
            for (int what = 0; what < 5; what++) {
                due.is("what " + what, x.meet(0, 1, 0, what), want[what]);
            }
            due.is("they share a point", x.meets(0, x.move(0, 0, -2)), Scenes.STATE);
            due.is("they share a stretch", x.meets(0, x.move(0, 0, -1)), Scenes.STATE);
        });
        cases.test("Terms 2: CROSS WELL: a CURVE of no points", due -> {
            CornerCurves x = Scenes.rich();
            due.is("without TERMS", x.meets(4, 0), 0);
            due.is("the other way", x.meets(0, 4), 0);
            due.is("with itself", x.meets(4, 4), 0);
            due.is("one TERM", x.meets(Scenes.put(x, 1, 1, 1), 0), 0);
        });
        cases.test("Terms 2: MEETS by x, then by y", due -> {
            CornerCurves x = new CornerCurves();
            Scenes.put(x, 0, 0, 0, 1, 0, 1, 2, 0, 3);
            Scenes.put(x, 0, 0, 0, 0, 1, 4, 0, 2, 9);
            due.is("MEETS", x.meets(0, 1), 4);
            int[][] at = {{-2, -5}, {-2, -4}, {-1, -5}, {-1, -4}};
            for (int i = 0; i < 4; i++) {
                due.is("x of " + i, x.meet(0, 1, i, 0), at[i][0]);
                due.is("y of " + i, x.meet(0, 1, i, 2), at[i][1]);
                due.is("x of " + i + ", the other way", x.meet(1, 0, i, 0), at[i][0]);
                due.is("y of " + i + ", the other way", x.meet(1, 0, i, 2), at[i][1]);
            }
        });
        cases.test("Terms 2: a COUNT is the size of (a d less b c) times both WEIGHTS", due -> {
            CornerCurves x = new CornerCurves();
            int up = Scenes.flat(x, 0, 0, 4, 0);
            int level = Scenes.flat(x, 0, 0, 0, 3);
            int steep = Scenes.flat(x, 0, 0, 4, 2);
            due.is("4 times 3", x.meet(up, level, 0, 4), 12);
            due.is("the other way", x.meet(level, up, 0, 4), 12);
            due.is("WEIGHTS 4 and 2, (0, 1) and (-1, 2)", x.meet(up, steep, 0, 4), 8);
            due.is("WEIGHTS 3 and 2, (-1, 0) and (-1, 2)", x.meet(level, steep, 0, 4), 12);
        });
        cases.test("Terms 2: THE AMOUNT is what the COUNTS of all MEETS make", due -> {
            CornerCurves x = new CornerCurves();
            Scenes.put(x, 0, 0, 0, 2, 0, 0, 0, 2, 0, 1, 1, -1);
            Scenes.put(x, 0, 0, 0, 3, 1, 2, 1, 3, -2, 0, 4, 1);
            long made = 0;
            for (int i = 0; i < x.meets(0, 1); i++) {
                made += x.meet(0, 1, i, 4);
            }
            due.is("THE AMOUNT", x.amount(0, 1), made);
            due.is("it is", made, 8);
        });
    }

    private static void rootsAndRows() {
        cases.test("Terms 2: a FORM of one letter has PLACES with j 0 alone", due -> {
            CornerCurves x = new CornerCurves();
            Scenes.put(x, 0, 0, 0, 4, 0, 4);
            due.is("ROOT", x.root(0, 0, 0), -1);
            x.term(0, 2, 1, 20);
            due.is("another PLACE", x.root(0, 0, 0), NO);
            x.take(0, 2, 1);
            due.is("again", x.root(0, 0, 2), 4);
            Scenes.flat(x, 0, 1, 1, 1);
            due.is("all with j 1", x.root(1, 0, 0), NO);
        });
        cases.test("Terms 2: an IDLE TERM with another j counts", due -> {
            CornerCurves x = new CornerCurves();
            Scenes.put(x, 0, 0, 0, 0, 0, 0, 1, 0, 0);
            due.is("ROOT", x.root(0, 0, 0), 0);
            x.term(0, 0, 4, 20);
            due.is("not of one letter", x.root(0, 0, 0), NO);
        });
        cases.test("Terms 2: ROOTS rising, each with the WEIGHT", due -> {
            CornerCurves x = new CornerCurves();
            Scenes.put(x, 0, 0, 20, 1, 0, 5, 3, 0, -5, 4, 0, -5);
            long[][] want = {{0, 1, 1}, {5, 1, 2}, {15, 1, 1}};
            for (int i = 0; i < 3; i++) {
                for (int what = 0; what < 3; what++) {
                    due.is("ROOT " + i + ", " + what, x.root(0, i, what), want[i][what]);
                }
            }
            due.is("all are LINES", x.told(0, 9), 3);
        });
        cases.test("Terms 3: THE ROWS: for each EDGE four, then for each CORNER four", due -> {
            CornerCurves x = new CornerCurves();
            Scenes.fork(x);
            long[] want = {-1, 0, 1, 2, 0, 1, 1, 2, 1, 1, 1, 2, 0, 1, 0, 1};
            due.is("write", x.write(0), 16);
            for (int k = 0; k < 16; k++) {
                due.is("row " + k, x.row(k), want[k]);
            }
        });
    }

    private static void acts() {
        cases.test("Terms 4: x wraps at 32 bits", due -> {
            CornerCurves x = Scenes.fourKinds();
            int huge = Scenes.HUGE;
            due.is("x + t", x.act(0, 0, huge), huge + 3);
            due.is("x + t once round", x.act(0, 0, huge - 2), Scenes.DEEP);
            due.is("times 3", x.act(0, 1, huge), (huge + 3) * 3);
            due.is("x - 1", x.act(2, 1, Scenes.DEEP), ((Scenes.DEEP - 1 + 3) ^ 7) * 2 * 3);
            due.is("times 2", x.act(2, 0, huge), ((huge + 3) ^ 7) * 2);
            due.is("x + m", x.act(3, 2, huge), ((huge + 2) * 3 - (huge + 3 + 2)) ^ ((huge + 2) * 3));
        });
        cases.test("Terms 4: a KIND without a body runs that of the next KIND above that has one", due -> {
            CornerCurves x = Scenes.fourKinds();
            int[][] first = {{10, 11, 12}, {20, 11, 21}, {31, 30, 21}, {10, 11, 40}};
            for (int f = 0; f < 4; f++) {
                for (int act = 0; act < 3; act++) {
                    x.act(f, act, 1);
                    due.is("the first body of " + f + ", " + act, x.trace(0), first[f][act]);
                }
            }
        });
        cases.test("Terms 4: super of a POWER goes to the SUM's body, where it has one, else to the FORM's", due -> {
            CornerCurves x = Scenes.fourKinds();
            x.act(2, 0, 1);
            due.is("super.lies", x.trace(1), 20);
            x.act(2, 1, 1);
            due.is("super.weighs", x.trace(1), 11);
            due.is("in it the POWER's own lies", x.trace(2), 31);
        });
        cases.test("Terms 4: what stands further left is worked out first", due -> {
            CornerCurves x = Scenes.fourKinds();
            int[] bodies = {40, 12, 11, 10, 10, 11, 10};
            x.act(3, 2, 1);
            for (int k = 0; k < bodies.length; k++) {
                due.is("body " + k, x.trace(k), bodies[k]);
            }
        });
    }
}
