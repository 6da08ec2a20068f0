/** Promises 30 to 32: a test for each sentence that names a boundary. What they refuse is in RefusalsTest, too. */
public final class SheetsBoundaryTest {
    private static final int BAD = Scenes.BAD, NOTHING = Scenes.NOTHING, OUTSIDE = Scenes.OUTSIDE;
    private static final int OTHER = Scenes.OTHER, BELOW = Scenes.BELOW, NO_NUMBER = Scenes.NO_NUMBER;
    private static final int HUGE = Scenes.HUGE, DEEP = Scenes.DEEP;
    private static final Cases cases = new Cases();

    public static void main(String[] args) {
        sheet();
        sheetAgain();
        cell();
        copy();
        copyEdges();
        copyOntoItself();
        cases.close();
    }

    /** How often 2 goes into an item of a SHEET of 9 or more; NO_NUMBER for 0. */
    private static int twos(CornerCurves x, int sheet, int sort, int i) {
        int from = Math.max(0, i - 8);
        int f = x.hide(sheet, sort, from, 2);
        if (f < 0) {
            return f;
        }
        int place = i - from;
        int found = x.number(f, place / 3, place % 3);
        x.drop();
        return found;
    }

    /** An int SHEET whose item k is 2 to the k. */
    private static CornerCurves powers(int sheet, int n) {
        CornerCurves x = new CornerCurves();
        x.sheet(sheet, 1, n);
        for (int k = 0; k < n && k < 31; k++) {
            x.cell(sheet, k, 1 << k);
        }
        return x;
    }

    private static void sheet() {
        cases.test("Promise 30: SHEETS 0 .. 3", due -> {
            CornerCurves x = new CornerCurves();
            for (int s = 0; s < 4; s++) {
                due.is("missing at first", x.cell(s, 0, 1), NOTHING);
                due.is("SHEET " + s, x.sheet(s, 1, 1), 1);
                due.is("its item", x.cell(s, 0, 1), 1);
            }
            for (int s : new int[] {-1, 4, HUGE, DEEP}) {
                due.is("SHEET " + s, x.sheet(s, 1, 1), BAD);
                due.is("SHEET " + s + " missing", x.sheet(s, -1, 1), BAD);
            }
        });
        cases.test("Promise 30: sorts 0 bytes, 1 ints, 2 longs, -1 missing", due -> {
            CornerCurves x = new CornerCurves();
            for (int sort = 0; sort < 3; sort++) {
                due.is("sort " + sort, x.sheet(0, sort, 9), 1);
                for (int other = 0; other < 3; other++) {
                    due.is("taken for " + other, x.hide(0, other, 0, 2), other == sort ? sort : OTHER);
                }
            }
            due.is("sort -1", x.sheet(0, -1, 9), 1);
            due.is("it is missing", x.hide(0, 2, 0, 2), NOTHING);
            for (int sort : new int[] {-2, 3, HUGE, DEEP}) {
                due.is("sort " + sort, x.sheet(0, sort, 9), BAD);
            }
            due.is("still missing", x.cell(0, 0, 1), NOTHING);
        });
        cases.test("Promise 30: n 0 .. 40, of each sort", due -> {
            for (int sort = 0; sort < 3; sort++) {
                CornerCurves x = new CornerCurves();
                due.is("n 0", x.sheet(0, sort, 0), 1);
                due.is("its item 0", x.cell(0, 0, 1), OUTSIDE);
                due.is("n 1", x.sheet(1, sort, 1), 1);
                due.is("its item 0", x.cell(1, 0, 1), 1);
                due.is("its item 1", x.cell(1, 1, 1), OUTSIDE);
                due.is("n 40", x.sheet(2, sort, 40), 1);
                due.is("its item 39", x.cell(2, 39, 1), 1);
                due.is("its item 40", x.cell(2, 40, 1), OUTSIDE);
            }
        });
        cases.test("Promise 30, BAD: n above 40; the SHEET stays", due -> {
            CornerCurves x = powers(0, 20);
            due.is("n 41", x.sheet(0, 1, 41), BAD);
            due.is("n far above", x.sheet(0, 2, HUGE), BAD);
            due.is("item 19", twos(x, 0, 1, 19), 19);
            due.is("item 20", x.cell(0, 20, 1), OUTSIDE);
            due.is("a missing one", x.sheet(1, 1, 41), BAD);
            due.is("stays missing", x.cell(1, 0, 1), NOTHING);
        });
        cases.test("Promise 30, -14: n below 0; the SHEET stays", due -> {
            CornerCurves x = powers(0, 20);
            due.is("n -1", x.sheet(0, 1, -1), BELOW);
            due.is("n far below", x.sheet(0, 2, DEEP), BELOW);
            due.is("item 19", twos(x, 0, 1, 19), 19);
            due.is("a missing one", x.sheet(1, 1, -1), BELOW);
            due.is("stays missing", x.cell(1, 0, 1), NOTHING);
            due.is("no such sort comes first", x.sheet(0, 3, -1), BAD);
            due.is("no such SHEET comes first", x.sheet(4, 1, -1), BAD);
        });
        cases.test("Promise 30: missing: n does not matter", due -> {
            for (int n : new int[] {DEEP, -1, 0, 40, 41, HUGE}) {
                CornerCurves x = powers(0, 20);
                due.is("n " + n, x.sheet(0, -1, n), 1);
                due.is("it is missing", x.cell(0, 0, 1), NOTHING);
                due.is("missing already", x.sheet(0, -1, n), 1);
                due.is("it is missing", x.hide(0, 1, 0, 2), NOTHING);
            }
        });
    }

    private static void sheetAgain() {
        cases.test("Promise 30: all 0", due -> {
            CornerCurves x = new CornerCurves();
            x.sheet(0, 2, 40);
            for (int k = 0; k < 32; k += 8) {
                int f = x.hide(0, 2, Math.min(31, k), 2);
                due.is("TERMS", x.told(f, 1), 0);
            }
        });
        cases.test("Promise 30: all 0 again, also of another sort and size", due -> {
            for (int sort = 0; sort < 3; sort++) {
                CornerCurves x = powers(0, 20);
                x.sheet(0, sort, 18);
                due.is("the first nine", x.told(x.hide(0, sort, 0, 2), 1), 0);
                due.is("the last nine", x.told(x.hide(0, sort, 9, 2), 1), 0);
                due.is("item 18", x.cell(0, 18, 1), OUTSIDE);
            }
        });
        cases.test("Promise 30: smaller, then larger: all 0", due -> {
            CornerCurves x = powers(0, 20);
            x.sheet(0, 1, 2);
            x.sheet(0, 1, 20);
            due.is("item 0", twos(x, 0, 1, 0), NO_NUMBER);
            due.is("item 2", twos(x, 0, 1, 2), NO_NUMBER);
            due.is("item 19", twos(x, 0, 1, 19), NO_NUMBER);
        });
        cases.test("Promise 30: missing, then there again: all 0", due -> {
            CornerCurves x = powers(0, 20);
            x.sheet(0, -1, 20);
            x.sheet(0, 1, 20);
            due.is("item 7", twos(x, 0, 1, 7), NO_NUMBER);
        });
        cases.test("Promise 30: the other SHEETS stay", due -> {
            CornerCurves x = powers(0, 20);
            x.sheet(1, 1, 20);
            x.sheet(2, -1, 0);
            due.is("item 7", twos(x, 0, 1, 7), 7);
        });
    }

    private static void cell() {
        cases.test("Promise 31: items 0 to the last", due -> {
            for (int sort = 0; sort < 3; sort++) {
                CornerCurves x = new CornerCurves();
                x.sheet(3, sort, 11);
                due.is("item 0", x.cell(3, 0, 2), 1);
                due.is("item 10", x.cell(3, 10, 4), 1);
                due.is("it is 2", twos(x, 3, sort, 0), 1);
                due.is("it is 4", twos(x, 3, sort, 10), 2);
                due.is("the one beside is 0", twos(x, 3, sort, 9), NO_NUMBER);
                for (int i : new int[] {-1, 11, 40, HUGE, DEEP}) {
                    due.is("item " + i, x.cell(3, i, 1), OUTSIDE);
                }
            }
        });
        cases.test("Promise 31: of bytes v's lowest 8 bits", due -> {
            int[][] cells = {{255, 0}, {256, NO_NUMBER}, {257, 0}, {384, 7}, {-256, NO_NUMBER}, {-255, 0}, {-192, 6},
                {HUGE, 0}, {DEEP, NO_NUMBER}, {1 << 8 | 1 << 5, 5}, {128, 7}, {-128, 7}, {65536, NO_NUMBER}};
            for (int[] c : cells) {
                CornerCurves x = new CornerCurves();
                x.sheet(0, 0, 9);
                due.is("cell " + c[0], x.cell(0, 4, c[0]), 1);
                due.is("twos", twos(x, 0, 0, 4), c[1]);
            }
        });
        cases.test("Promise 31: of ints and longs all of v", due -> {
            int[][] cells = {{255, 0}, {256, 8}, {-256, 8}, {HUGE, 0}, {DEEP, 31}, {65536, 16}, {0, NO_NUMBER}};
            for (int sort = 1; sort < 3; sort++) {
                for (int[] c : cells) {
                    CornerCurves x = new CornerCurves();
                    x.sheet(0, sort, 9);
                    due.is("cell " + c[0], x.cell(0, 4, c[0]), 1);
                    due.is("twos", twos(x, 0, sort, 4), c[1]);
                }
            }
        });
        cases.test("Promise 31: v from now on", due -> {
            CornerCurves x = powers(0, 20);
            due.is("cell", x.cell(0, 5, 2), 1);
            due.is("item 5", twos(x, 0, 1, 5), 1);
            due.is("cell", x.cell(0, 5, 0), 1);
            due.is("item 5", twos(x, 0, 1, 5), NO_NUMBER);
            due.is("item 4", twos(x, 0, 1, 4), 4);
            due.is("item 6", twos(x, 0, 1, 6), 6);
        });
        cases.test("Promise 31, BAD: no such SHEET", due -> {
            CornerCurves x = powers(0, 20);
            for (int s : new int[] {-1, 4, HUGE, DEEP}) {
                due.is("SHEET " + s, x.cell(s, 0, 1), BAD);
                due.is("SHEET " + s + ", item -1", x.cell(s, -1, 1), BAD);
            }
        });
        cases.test("Promise 31, -11: a missing SHEET, whatever i", due -> {
            CornerCurves x = powers(0, 20);
            x.sheet(0, -1, 20);
            for (int i : new int[] {0, -1, 40, HUGE, DEEP}) {
                due.is("missing again", x.cell(0, i, 1), NOTHING);
                due.is("missing still", x.cell(1, i, 1), NOTHING);
            }
        });
        cases.test("Promise 31, -12: a SHEET of none", due -> {
            CornerCurves x = new CornerCurves();
            x.sheet(0, 0, 0);
            due.is("item 0", x.cell(0, 0, 1), OUTSIDE);
            due.is("item -1", x.cell(0, -1, 1), OUTSIDE);
        });
    }

    private static void copy() {
        cases.test("Promise 32: n items from i on come to j on, no item more", due -> {
            CornerCurves x = powers(0, 20);
            x.sheet(1, 1, 12);
            due.is("copy", x.copy(0, 10, 1, 3, 5), 5);
            int[] want = {-1, -1, -1, 10, 11, 12, 13, 14, -1, -1, -1, -1};
            for (int k = 0; k < 12; k++) {
                due.is("item " + k, twos(x, 1, 1, k), want[k] < 0 ? NO_NUMBER : want[k]);
            }
            for (int k = 9; k < 16; k++) {
                due.is("item " + k + " of the one", twos(x, 0, 1, k), k);
            }
        });
        cases.test("Promise 32: of each sort", due -> {
            for (int sort = 0; sort < 3; sort++) {
                CornerCurves x = new CornerCurves();
                x.sheet(0, sort, 9);
                x.sheet(3, sort, 9);
                x.cell(0, 8, -128);
                due.is("copy", x.copy(0, 8, 3, 0, 1), 1);
                due.is("item 0", twos(x, 3, sort, 0), 7);
            }
        });
        cases.test("Promise 32: all items, up to either's end", due -> {
            CornerCurves x = powers(0, 20);
            x.sheet(1, 1, 40);
            due.is("all", x.copy(0, 0, 1, 20, 20), 20);
            due.is("the last", twos(x, 1, 1, 39), 19);
            due.is("the first", twos(x, 1, 1, 20), 0);
            due.is("one more", x.copy(0, 0, 1, 20, 21), OUTSIDE);
            due.is("one further", x.copy(0, 0, 1, 21, 20), OUTSIDE);
            due.is("all of 40", x.copy(1, 0, 1, 0, 40), 40);
        });
        cases.test("Promise 32: none, also at either's end", due -> {
            CornerCurves x = powers(0, 20);
            x.sheet(1, 1, 12);
            due.is("in the middle", x.copy(0, 5, 1, 5, 0), 0);
            due.is("at the one's end", x.copy(0, 20, 1, 0, 0), 0);
            due.is("at the other's end", x.copy(0, 0, 1, 12, 0), 0);
            due.is("at both", x.copy(0, 20, 1, 12, 0), 0);
            due.is("item 5 stays 0", twos(x, 1, 1, 5), NO_NUMBER);
            x.sheet(2, 1, 0);
            due.is("of none", x.copy(2, 0, 1, 0, 0), 0);
            due.is("one of none", x.copy(2, 0, 1, 0, 1), OUTSIDE);
        });
    }

    private static void copyEdges() {
        cases.test("Promise 32, -12: n, i or j below 0 or beyond either's end", due -> {
            CornerCurves x = powers(0, 20);
            x.sheet(1, 1, 12);
            int[][] outside = {{0, 0, -1}, {-1, 0, 1}, {0, -1, 1}, {-1, 0, 0}, {0, -1, 0}, {-1, -1, 1}, {20, 0, 1},
                {0, 12, 1}, {21, 0, 0}, {0, 13, 0}, {15, 0, 6}, {0, 7, 6}, {0, 0, 13}, {HUGE, 0, 1}, {0, HUGE, 1},
                {1, 0, HUGE}, {0, 1, HUGE}, {HUGE, HUGE, HUGE}, {DEEP, 0, 1}, {0, DEEP, 1}, {0, 0, DEEP},
                {DEEP, DEEP, DEEP}, {HUGE, 0, 0}, {0, HUGE, 0}};
            for (int[] o : outside) {
                due.is("copy of " + o[2] + " from " + o[0] + " to " + o[1], x.copy(0, o[0], 1, o[1], o[2]), OUTSIDE);
            }
            for (int k = 0; k < 12; k++) {
                due.is("item " + k, twos(x, 1, 1, k), NO_NUMBER);
            }
        });
        cases.test("Promise 32, -13: not of one sort", due -> {
            for (int from = 0; from < 3; from++) {
                for (int to = 0; to < 3; to++) {
                    CornerCurves x = new CornerCurves();
                    x.sheet(0, from, 9);
                    x.sheet(1, to, 9);
                    due.is(from + " to " + to, x.copy(0, 0, 1, 0, 9), from == to ? 9 : OTHER);
                    due.is("none of " + from + " to " + to, x.copy(0, 0, 1, 0, 0), from == to ? 0 : OTHER);
                    due.is("outside, " + from + " to " + to, x.copy(0, 0, 1, 0, 10), from == to ? OUTSIDE : OTHER);
                }
            }
        });
        cases.test("Promise 32, -11: one of them is missing", due -> {
            CornerCurves x = powers(0, 20);
            due.is("the other", x.copy(0, 0, 1, 0, 0), NOTHING);
            due.is("the one", x.copy(1, 0, 0, 0, 0), NOTHING);
            due.is("both", x.copy(1, 0, 2, 0, 0), NOTHING);
            due.is("outside, too", x.copy(1, -1, 0, -1, -1), NOTHING);
        });
        cases.test("Promise 32, BAD: no such SHEETS", due -> {
            CornerCurves x = powers(0, 20);
            for (int s : new int[] {-1, 4, HUGE, DEEP}) {
                due.is("the one", x.copy(s, 0, 0, 0, 0), BAD);
                due.is("the other", x.copy(0, 0, s, 0, 0), BAD);
                due.is("the other of a missing one", x.copy(1, 0, s, -1, 0), BAD);
            }
        });
    }

    private static void copyOntoItself() {
        cases.test("Promise 32: onto itself, onwards, as they all were before", due -> {
            CornerCurves x = powers(0, 20);
            due.is("copy", x.copy(0, 0, 0, 1, 19), 19);
            due.is("item 0", twos(x, 0, 1, 0), 0);
            for (int k = 1; k < 20; k++) {
                due.is("item " + k, twos(x, 0, 1, k), k - 1);
            }
        });
        cases.test("Promise 32: onto itself, back, as they all were before", due -> {
            CornerCurves x = powers(0, 20);
            due.is("copy", x.copy(0, 1, 0, 0, 19), 19);
            for (int k = 0; k < 19; k++) {
                due.is("item " + k, twos(x, 0, 1, k), k + 1);
            }
            due.is("item 19", twos(x, 0, 1, 19), 19);
        });
        cases.test("Promise 32: onto itself, to the same items", due -> {
            CornerCurves x = powers(0, 20);
            due.is("copy", x.copy(0, 4, 0, 4, 16), 16);
            for (int k = 0; k < 20; k++) {
                due.is("item " + k, twos(x, 0, 1, k), k);
            }
            due.is("one more", x.copy(0, 4, 0, 4, 17), OUTSIDE);
        });
        cases.test("Promise 32: what comes stays when the one changes", due -> {
            CornerCurves x = powers(0, 20);
            x.sheet(1, 1, 12);
            x.copy(0, 4, 1, 4, 8);
            x.cell(0, 4, 1);
            x.sheet(0, -1, 0);
            due.is("item 4", twos(x, 1, 1, 4), 4);
            due.is("item 11", twos(x, 1, 1, 11), 11);
        });
    }
}
