/** Promises 23 to 29: a test for each sentence that names a boundary. What they refuse is in RefusalsTest, too. */
public final class ProofsBoundaryTest {
    private static final int BAD = Scenes.BAD, NONE = Scenes.NONE, HUGE = Scenes.HUGE, DEEP = Scenes.DEEP;
    private static final long NO = Scenes.NO;
    private static final Cases cases = new Cases();

    public static void main(String[] args) {
        write();
        row();
        forge();
        check();
        act();
        trace();
        count();
        cases.close();
    }

    private static void write() {
        cases.test("Promise 23: how many numbers, from 0 on", due -> {
            CornerCurves x = new CornerCurves();
            due.is("without TERMS", x.write(x.form()), 0);
            due.is("count", x.count(1), 0);
            x.term(0, 0, 0, 0);
            due.is("one TERM", x.write(0), 0);
            x.term(0, 1, 0, 0);
            due.is("a LINE", x.write(0), 4);
            due.is("count", x.count(1), 4);
            x.term(0, 0, 1, 0);
            due.is("three RAYS and a CORNER", x.write(0), 16);
            due.is("count", x.count(1), 16);
        });
        cases.test("Promise 23: THE ROWS are those of the FORM written last, no number more", due -> {
            CornerCurves x = new CornerCurves();
            Scenes.fork(x);
            Scenes.put(x, 0, 0, 0, 1, 2, 3);
            x.write(0);
            due.is("write", x.write(1), 4);
            due.is("row 0", x.row(0), -2);
            due.is("row 3", x.row(3), 3);
            due.is("row 4", x.row(4), NO);
            x.write(0);
            due.is("row 15", x.row(15), 1);
            due.is("of none", x.write(x.form()), 0);
            due.is("row 0", x.row(0), NO);
        });
        cases.test("Promise 23: of 40 TERMS", due -> {
            CornerCurves x = new CornerCurves();
            Scenes.put(x, 0, 0, 0, 1, 0, -6, 2, 0, -8, 3, 0, -6, 4, 0, 0);
            Scenes.put(x, 0, 0, 0, 1, 0, -4, 2, 0, -4, 3, 0, 0);
            Scenes.put(x, 0, 0, 0, 0, 1, -3, 0, 2, -4, 0, 3, -3, 0, 4, 0);
            int lattice = x.sum(x.sum(0, 1), 2);
            due.is("write", x.write(lattice), 4 * (67 + 28));
            long[] last = {6, 1, 3, 1};
            for (int k = 0; k < 4; k++) {
                due.is("row " + (376 + k), x.row(376 + k), last[k]);
            }
            due.is("row 380", x.row(380), NO);
            due.is("forge the last", x.forge(379, 5), 1);
            due.is("check", x.check(lattice), 379);
        });
        cases.test("Promise 23: of 87 EDGES and 48 CORNERS", due -> {
            CornerCurves x = Scenes.dense();
            due.is("write", x.write(2), 540);
            due.is("check", x.check(2), NONE);
            for (int c = 0; c < 48; c++) {
                for (int what = 0; what < 4; what++) {
                    due.is("CORNER " + c + ", " + what, x.row(348 + 4 * c + what), x.corner(2, c, what));
                }
            }
            due.is("row 540", x.row(540), NO);
        });
        cases.test("Promise 23: the greatest and the least numbers", due -> {
            CornerCurves x = new CornerCurves();
            Scenes.put(x, 0, 0, -20, 1, 0, 20, 0, 1, 20);
            x.write(0);
            due.is("x", x.row(12), -40);
            due.is("y", x.row(14), -40);
        });
        cases.test("Promise 23, BAD: no such FORM; THE ROWS stay", due -> {
            CornerCurves x = new CornerCurves();
            Scenes.fork(x);
            x.write(0);
            for (int f : new int[] {-1, 1, 10, HUGE, DEEP}) {
                due.is("write of " + f, x.write(f), BAD);
                due.is("check", x.check(0), NONE);
            }
        });
    }

    private static void row() {
        cases.test("Promise 24: number 0 to the last", due -> {
            CornerCurves x = new CornerCurves();
            Scenes.put(x, 0, 0, 0, 4, 2, 3);
            x.write(0);
            long[] want = {-1, 2, 2, 3};
            for (int i = 0; i < 4; i++) {
                due.is("row " + i, x.row(i), want[i]);
            }
            for (int i : new int[] {-1, 4, 379, 380, 1000, HUGE, DEEP}) {
                due.is("row " + i, x.row(i), NO);
            }
        });
        cases.test("Promise 24, NO: there are no ROWS (any more)", due -> {
            CornerCurves x = new CornerCurves();
            due.is("at first", x.row(0), NO);
            Scenes.fork(x);
            x.write(0);
            x.write(x.form());
            due.is("those of a FORM without EDGES", x.row(0), NO);
        });
        cases.test("Promise 24: THE ROWS stay when the FORM changes or goes", due -> {
            CornerCurves x = new CornerCurves();
            Scenes.put(x, 0, 0, 0, 4, 2, 3);
            x.write(0);
            x.take(0, 0, 0);
            due.is("row 1", x.row(1), 2);
            x.drop();
            due.is("row 1", x.row(1), 2);
            due.is("count", x.count(1), 4);
        });
    }

    private static void forge() {
        cases.test("Promise 25: v may be any number", due -> {
            CornerCurves x = new CornerCurves();
            Scenes.put(x, 0, 0, 0, 4, 2, 3);
            x.write(0);
            long[] numbers = {Long.MAX_VALUE, Long.MIN_VALUE, NO, 1L << 32};
            for (int i = 0; i < 4; i++) {
                due.is("forge", x.forge(i, numbers[i]), 1);
            }
            for (int i = 0; i < 4; i++) {
                due.is("row " + i, x.row(i), numbers[i]);
                due.is("check", x.check(0), 0);
            }
        });
        cases.test("Promise 25: a number that differs above 32 bits alone is another one", due -> {
            CornerCurves x = new CornerCurves();
            Scenes.put(x, 0, 0, 0, 4, 2, 3);
            x.write(0);
            x.forge(1, 2 + (1L << 32));
            due.is("check", x.check(0), 1);
        });
        cases.test("Promise 25, BAD: i beyond THE ROWS", due -> {
            CornerCurves x = new CornerCurves();
            due.is("there are none", x.forge(0, 1), BAD);
            Scenes.put(x, 0, 0, 0, 4, 2, 3);
            x.write(0);
            for (int i : new int[] {-1, 4, 379, 380, 1000, HUGE, DEEP}) {
                due.is("forge " + i, x.forge(i, 7), BAD);
            }
            due.is("count", x.count(1), 4);
            due.is("check", x.check(0), NONE);
        });
        cases.test("Promise 25: what was forged beyond is not there later", due -> {
            CornerCurves x = new CornerCurves();
            Scenes.fork(x);
            Scenes.put(x, 0, 0, 0, 4, 2, 3);
            x.write(0);
            x.forge(15, 77);
            x.write(1);
            x.write(0);
            due.is("check", x.check(0), NONE);
        });
    }

    private static void check() {
        cases.test("Promise 26, NONE: all is as write() would write it", due -> {
            CornerCurves x = Scenes.fourKinds();
            for (int f = 0; f < 4; f++) {
                x.write(f);
                due.is("check", x.check(f), NONE);
            }
        });
        cases.test("Promise 26: the first number that is not, each of them", due -> {
            CornerCurves x = new CornerCurves();
            Scenes.fork(x);
            x.write(0);
            for (int i = 15; i >= 0; i--) {
                x.forge(i, x.row(i) + 1);
                due.is("check", x.check(0), i);
            }
            for (int i = 0; i < 16; i++) {
                due.is("check", x.check(0), i);
                x.forge(i, x.row(i) - 1);
            }
            due.is("check", x.check(0), NONE);
        });
        cases.test("Promise 26: where THE ROWS have none", due -> {
            CornerCurves x = new CornerCurves();
            Scenes.put(x, 0, 0, 0, 1, 0, 0);
            due.is("none at all", x.check(0), 0);
            x.write(0);
            Scenes.put(x, 0, 0, 0, 1, 0, 0, 2, 0, 20);
            due.is("behind the last", x.check(1), 4);
        });
        cases.test("Promise 26: where the FORM has none", due -> {
            CornerCurves x = new CornerCurves();
            Scenes.put(x, 0, 0, 0, 1, 0, 0, 2, 0, 20);
            Scenes.put(x, 0, 0, 0, 1, 0, 0);
            x.write(0);
            due.is("behind its last", x.check(1), 4);
            due.is("a FORM without TERMS", x.check(x.form()), 0);
        });
        cases.test("Promise 26: one that differs before the end comes first", due -> {
            CornerCurves x = new CornerCurves();
            Scenes.put(x, 0, 0, 0, 1, 0, 0, 2, 0, 20);
            Scenes.put(x, 0, 0, 0, 1, 0, 0);
            x.write(0);
            x.forge(3, 2);
            due.is("check", x.check(1), 3);
        });
        cases.test("Promise 26: what stood behind THE ROWS before doesn't matter", due -> {
            CornerCurves x = new CornerCurves();
            Scenes.fork(x);
            Scenes.put(x, 0, 0, 0, 4, 2, 3);
            x.form();
            x.write(0);
            x.forge(0, 9);
            x.forge(4, 9);
            x.write(1);
            due.is("check", x.check(1), NONE);
            x.write(2);
            due.is("check of none", x.check(2), NONE);
        });
        cases.test("Promise 26, NONE: neither has any", due -> {
            CornerCurves x = new CornerCurves();
            due.is("without TERMS", x.check(x.form()), NONE);
            x.term(0, 2, 2, 2);
            due.is("one TERM", x.check(0), NONE);
        });
        cases.test("Promise 26: as the FORM is now", due -> {
            CornerCurves x = new CornerCurves();
            Scenes.fork(x);
            x.write(0);
            x.term(0, 0, 0, 1);
            due.is("its CORNER is elsewhere", x.check(0), 12);
            x.term(0, 0, 0, 0);
            due.is("as it was", x.check(0), NONE);
            x.term(0, 3, 3, 20);
            due.is("other EDGES", x.check(0) >= 0 ? 1 : 0, 1);
        });
        cases.test("Promise 26, BAD: no such FORM", due -> {
            CornerCurves x = Scenes.rich();
            for (int f : new int[] {-1, 5, 10, HUGE, DEEP}) {
                due.is("check of " + f, x.check(f), BAD);
            }
        });
    }

    private static void act() {
        cases.test("Promise 27: acts 0, 1, 2 of each KIND", due -> {
            CornerCurves x = Scenes.fourKinds();
            int[][] want = {{13, 39, 39 - 13}, {16 ^ 7, (16 ^ 7) * 3, (16 ^ 7) * 3 - (17 ^ 7) + (6 ^ 7)},
                {(13 ^ 7) * 2, (12 ^ 7) * 6, (12 ^ 7) * 6 - (15 ^ 7) * 2 + (3 ^ 7) * 2}, {12, 36, (36 - 15) ^ 36}};
            for (int f = 0; f < 4; f++) {
                for (int act = 0; act < 3; act++) {
                    due.is("act " + act + " of " + f, x.act(f, act, 10), want[f][act]);
                }
            }
        });
        cases.test("Promise 27: t is how many TERMS there are now, 0 too", due -> {
            CornerCurves x = new CornerCurves();
            x.form();
            due.is("none", x.act(0, 0, 5), 5);
            x.term(0, 0, 0, 0);
            due.is("one", x.act(0, 0, 5), 6);
            x.take(0, 0, 0);
            due.is("none again", x.act(0, 1, 5), 15);
        });
        cases.test("Promise 27: m is its number, up to 9", due -> {
            CornerCurves x = Scenes.fill(new CornerCurves(), 10);
            due.is("of 0", x.act(0, 2, 5), 15 - 5);
            due.is("of 9", x.act(9, 2, 5), 15 - 14);
        });
        cases.test("Promise 27: x wraps at 32 bits", due -> {
            CornerCurves x = Scenes.fill(new CornerCurves(), 10);
            due.is("times 3", x.act(0, 1, HUGE), HUGE * 3);
            due.is("x + m", x.act(9, 2, HUGE), HUGE * 3 - (HUGE + 9));
            due.is("the least", x.act(9, 2, DEEP), DEEP * 3 - (DEEP + 9));
            x.drop();
            x.power(0, 1);
            due.is("x - 1", x.act(9, 1, DEEP), (HUGE ^ 7) * 6);
        });
        cases.test("Promise 27: 0 and no TRACE: no such FORM", due -> {
            CornerCurves x = Scenes.fourKinds();
            for (int f : new int[] {-1, 4, 10, HUGE, DEEP}) {
                x.act(2, 2, 5);
                due.is("act of " + f, x.act(f, 0, 5), 0);
                due.is("bodies", x.count(2), 0);
                due.is("trace(0)", x.trace(0), NONE);
            }
        });
        cases.test("Promise 27: 0 and no TRACE: no such act", due -> {
            CornerCurves x = Scenes.fourKinds();
            for (int act : new int[] {-1, 3, HUGE, DEEP}) {
                x.act(2, 2, 5);
                due.is("act " + act, x.act(0, act, 5), 0);
                due.is("bodies", x.count(2), 0);
                due.is("trace(0)", x.trace(0), NONE);
            }
        });
        cases.test("Promise 27: an act changes nothing else", due -> {
            CornerCurves x = Scenes.rich();
            x.act(0, 0, 1);
            x.act(9, 0, 1);
            due.is("FORMS", x.count(0), 5);
            due.is("ROWS", x.count(1), 28);
            due.is("TERMS", x.told(0, 1), 5);
            due.is("what was forged", x.check(0), 2);
        });
    }

    private static void trace() {
        cases.test("Promise 28: body 0 to the last", due -> {
            CornerCurves x = Scenes.fourKinds();
            x.act(0, 1, 5);
            due.is("trace(0)", x.trace(0), 11);
            due.is("trace(1)", x.trace(1), 10);
            for (int i : new int[] {-1, 2, 39, 40, 41, HUGE, DEEP}) {
                due.is("trace(" + i + ")", x.trace(i), NONE);
            }
        });
        cases.test("Promise 28: the longest TRACE is kept whole", due -> {
            CornerCurves x = Scenes.fourKinds();
            int[] bodies = {21, 12, 30, 11, 31, 20, 10, 31, 20, 10, 31, 20, 10};
            x.act(2, 2, 5);
            due.is("how many", x.count(2), 13);
            for (int i = 0; i < 13; i++) {
                due.is("trace(" + i + ")", x.trace(i), bodies[i]);
            }
            due.is("trace(13)", x.trace(13), NONE);
        });
        cases.test("Promise 28: of the latest act alone", due -> {
            CornerCurves x = Scenes.fourKinds();
            x.act(2, 2, 5);
            x.act(1, 0, 5);
            due.is("trace(0)", x.trace(0), 20);
            due.is("trace(1)", x.trace(1), 10);
            due.is("trace(2)", x.trace(2), NONE);
        });
        cases.test("Promise 28, NONE: nothing ran yet", due -> {
            CornerCurves x = new CornerCurves();
            x.form();
            due.is("trace(0)", x.trace(0), NONE);
            due.is("trace(-1)", x.trace(-1), NONE);
        });
        cases.test("Promise 28: THE TRACE stays until the next act", due -> {
            CornerCurves x = Scenes.fourKinds();
            x.act(3, 2, 5);
            x.drop();
            x.form();
            x.write(0);
            due.is("trace(0)", x.trace(0), 40);
            due.is("how many", x.count(2), 7);
        });
    }

    private static void count() {
        cases.test("Promise 29: what 0, 1, 2", due -> {
            CornerCurves x = Scenes.rich();
            due.is("FORMS", x.count(0), 5);
            due.is("ROWS", x.count(1), 28);
            due.is("bodies", x.count(2), 13);
            for (int what : new int[] {-1, 3, HUGE, DEEP}) {
                due.is("what " + what, x.count(what), BAD);
            }
        });
        cases.test("Promise 29: FORMS from 0 to 10", due -> {
            CornerCurves x = new CornerCurves();
            due.is("none", x.count(0), 0);
            Scenes.fill(x, 10);
            due.is("all", x.count(0), 10);
            x.form();
            due.is("no more", x.count(0), 10);
            x.drop();
            due.is("one less", x.count(0), 9);
        });
        cases.test("Promise 29: numbers of THE ROWS and bodies from 0 on", due -> {
            CornerCurves x = new CornerCurves();
            due.is("ROWS", x.count(1), 0);
            due.is("bodies", x.count(2), 0);
            x.form();
            x.write(0);
            due.is("ROWS of none", x.count(1), 0);
            x.act(0, 0, 0);
            due.is("one body", x.count(2), 1);
        });
    }
}
