/** Promises 1 to 9 and 33: a test for each sentence that names a boundary. */
public final class FormsBoundaryTest {
    private static final int BAD = Scenes.BAD, STATE = Scenes.STATE, FULL = Scenes.FULL, NONE = Scenes.NONE;
    private static final int NOTHING = Scenes.NOTHING, OUTSIDE = Scenes.OUTSIDE, OTHER = Scenes.OTHER;
    private static final int NO_NUMBER = Scenes.NO_NUMBER, HUGE = Scenes.HUGE, DEEP = Scenes.DEEP;
    private static final long NO = Scenes.NO;
    private static final Cases cases = new Cases();

    public static void main(String[] args) {
        newObject();
        form();
        term();
        take();
        sum();
        sumsThatAreFull();
        power();
        powersThatAreFull();
        move();
        hide();
        hiddenNumbers();
        drop();
        taken();
        cases.close();
    }

    private static void newObject() {
        cases.test("Promise 1: no FORMS", due -> {
            CornerCurves x = new CornerCurves();
            due.is("count(0)", x.count(0), 0);
            due.is("told(0, 0)", x.told(0, 0), BAD);
            due.is("drop()", x.drop(), STATE);
            due.is("the first is numbered 0", x.form(), 0);
        });
        cases.test("Promise 1: no ROWS", due -> {
            CornerCurves x = new CornerCurves();
            due.is("count(1)", x.count(1), 0);
            due.is("row(0)", x.row(0), NO);
            due.is("forge(0)", x.forge(0, 0), BAD);
            due.is("check of a FORM without EDGES", x.check(x.form()), NONE);
        });
        cases.test("Promise 1: no TRACE", due -> {
            CornerCurves x = new CornerCurves();
            due.is("count(2)", x.count(2), 0);
            due.is("trace(0)", x.trace(0), NONE);
        });
        cases.test("Promise 1: all SHEETS are missing", due -> {
            CornerCurves x = new CornerCurves();
            for (int s = 0; s < 4; s++) {
                due.is("cell of " + s, x.cell(s, 0, 1), NOTHING);
                due.is("hide of " + s, x.hide(s, s % 3, 0, 2), NOTHING);
                due.is("copy of " + s, x.copy(s, 0, s, 0, 0), NOTHING);
            }
        });
        cases.test("Promise 1: objects share nothing", due -> {
            CornerCurves x = Scenes.rich();
            CornerCurves y = new CornerCurves();
            due.is("FORMS", y.count(0), 0);
            due.is("ROWS", y.count(1), 0);
            due.is("bodies", y.count(2), 0);
            due.is("SHEETS", y.cell(1, 0, 1), NOTHING);
            y.form();
            y.sheet(1, -1, 0);
            due.is("nor the other way", x.count(0), 5);
            due.is("nor SHEETS", x.cell(1, 0, 1), 1);
        });
        cases.test("Promise 1: what needs a FORM refuses", due -> {
            CornerCurves x = new CornerCurves();
            int[] got = {x.term(0, 0, 0, 0), x.take(0, 0, 0), x.sum(0, 0), x.power(0, 1), x.move(0, 0, 0),
                x.leastAt(0, 0, 0, 1), x.idle(0, 0, 0), x.same(0, 0), x.amount(0, 0), x.meets(0, 0), x.write(0),
                x.check(0)};
            for (int k = 0; k < got.length; k++) {
                due.is("call " + k, got[k], BAD);
            }
            due.is("number", x.number(0, 0, 0), NO_NUMBER);
            due.is("edge", x.edge(0, 0, 0), NO_NUMBER);
            due.is("worth", x.worth(0, 0, 0, 1, 0), NO);
            due.is("end", x.end(0, 0, 0, 0), NO);
            due.is("corner", x.corner(0, 0, 0), NO);
            due.is("meet", x.meet(0, 0, 0, 0), NO);
            due.is("root", x.root(0, 0, 0), NO);
            due.is("act", x.act(0, 0, 5), 0);
            due.is("taken", x.taken(0, 0), NOTHING);
        });
    }

    private static void form() {
        cases.test("Promise 2: its number, from 0 on, up to 10 FORMS", due -> {
            CornerCurves x = new CornerCurves();
            for (int k = 0; k < 10; k++) {
                due.is("form()", x.form(), k);
                due.is("how many", x.count(0), k + 1);
            }
        });
        cases.test("Promise 2, FULL: an eleventh", due -> {
            CornerCurves x = Scenes.fill(new CornerCurves(), 10);
            due.is("form()", x.form(), FULL);
            due.is("again", x.form(), FULL);
            due.is("how many", x.count(0), 10);
        });
        cases.test("Promise 2, FULL: FORMS of all KINDS count", due -> {
            CornerCurves x = Scenes.fourKinds();
            x.move(0, 1, 1);
            Scenes.fill(x, 10);
            due.is("form()", x.form(), FULL);
        });
        cases.test("Promise 2: after a drop there is room for one", due -> {
            CornerCurves x = Scenes.fill(new CornerCurves(), 10);
            x.drop();
            due.is("form()", x.form(), 9);
            due.is("form()", x.form(), FULL);
        });
        cases.test("Promise 2: of KIND 0, without TERMS, also where another one was", due -> {
            CornerCurves x = Scenes.fourKinds();
            x.drop();
            x.drop();
            due.is("form()", x.form(), 2);
            due.is("KIND", x.told(2, 0), 0);
            due.is("TERMS", x.told(2, 1), 0);
            due.is("EDGES", x.told(2, 2), 0);
            due.is("number", x.number(2, 0, 0), NO_NUMBER);
            due.is("term", x.term(2, 0, 0, 3), 1);
        });
    }

    private static void term() {
        cases.test("Promise 3: PLACES 0 .. 4", due -> {
            CornerCurves x = new CornerCurves();
            x.form();
            int[][] at = {{0, 0}, {0, 4}, {4, 0}, {4, 4}};
            for (int k = 0; k < 4; k++) {
                due.is("term", x.term(0, at[k][0], at[k][1], k), k + 1);
                due.is("its NUMBER", x.number(0, at[k][0], at[k][1]), k);
            }
            due.is("i 5", x.term(0, 5, 4, 0), BAD);
            due.is("j 5", x.term(0, 4, 5, 0), BAD);
            due.is("i -1", x.term(0, -1, 0, 0), BAD);
            due.is("j -1", x.term(0, 0, -1, 0), BAD);
            due.is("still four", x.told(0, 1), 4);
        });
        cases.test("Promise 3: NUMBERS -20 .. 20", due -> {
            CornerCurves x = new CornerCurves();
            x.form();
            due.is("20", x.term(0, 0, 0, 20), 1);
            due.is("it has it", x.number(0, 0, 0), 20);
            due.is("-20", x.term(0, 0, 0, -20), 1);
            due.is("it has it", x.number(0, 0, 0), -20);
            due.is("21", x.term(0, 0, 0, 21), BAD);
            due.is("-21", x.term(0, 0, 0, -21), BAD);
            due.is("it keeps its own", x.number(0, 0, 0), -20);
        });
        cases.test("Promise 3: the NUMBER from now on; no two TERMS have one PLACE", due -> {
            CornerCurves x = new CornerCurves();
            x.form();
            x.term(0, 2, 3, 5);
            due.is("again there", x.term(0, 2, 3, 7), 1);
            due.is("the later NUMBER", x.number(0, 2, 3), 7);
            due.is("a higher one too", x.term(0, 2, 3, 9), 1);
            due.is("the later NUMBER", x.number(0, 2, 3), 9);
            due.is("the PLACE turned round is another", x.term(0, 3, 2, 1), 2);
        });
        cases.test("Promise 3: how many TERMS, up to 12", due -> {
            CornerCurves x = new CornerCurves();
            x.form();
            for (int k = 0; k < 12; k++) {
                due.is("term", x.term(0, 4 - k / 5, 4 - k % 5, 0), k + 1);
            }
        });
        cases.test("Promise 3, FULL: it would have more than 12", due -> {
            CornerCurves x = Scenes.twelve();
            due.is("a thirteenth", x.term(5, 2, 2, 0), FULL);
            due.is("it didn't come", x.number(5, 2, 2), NO_NUMBER);
            due.is("how many", x.told(5, 1), 12);
        });
        cases.test("Promise 3: with 12, a TERM that is there takes another NUMBER", due -> {
            CornerCurves x = Scenes.twelve();
            for (int k = 0; k < 12; k++) {
                due.is("term", x.term(5, k / 5, k % 5, -k), 12);
                due.is("its NUMBER", x.number(5, k / 5, k % 5), -k);
            }
        });
        cases.test("Promise 3: with 12, after one went another may come", due -> {
            CornerCurves x = Scenes.twelve();
            due.is("take", x.take(5, 0, 0), 11);
            due.is("term", x.term(5, 4, 4, 0), 12);
            due.is("term", x.term(5, 0, 0, 0), FULL);
        });
        cases.test("Promise 3, STATE: another KIND", due -> {
            CornerCurves x = Scenes.fourKinds();
            for (int f = 1; f < 4; f++) {
                due.is("at a PLACE with a TERM", x.term(f, 0, 0, 1), STATE);
                due.is("at one without", x.term(f, 4, 4, 1), STATE);
            }
            due.is("a MOVED one", x.term(x.move(0, 0, 0), 0, 0, 1), STATE);
        });
        cases.test("Promise 3: what is told of the FORM is of its TERMS from now on", due -> {
            CornerCurves x = new CornerCurves();
            Scenes.fork(x);
            due.is("EDGES", x.told(0, 2), 3);
            x.term(0, 0, 0, -5);
            due.is("the CORNER has gone elsewhere", x.corner(0, 0, 0), -5);
            x.term(0, 1, 1, -20);
            due.is("EDGES", x.told(0, 2), 5);
        });
    }

    private static void take() {
        cases.test("Promise 4: how many; the last one too", due -> {
            CornerCurves x = new CornerCurves();
            Scenes.put(x, 0, 0, 1, 4, 4, 2);
            due.is("take", x.take(0, 4, 4), 1);
            due.is("it is gone", x.number(0, 4, 4), NO_NUMBER);
            due.is("the other stays", x.number(0, 0, 0), 1);
            due.is("take", x.take(0, 0, 0), 0);
            due.is("without TERMS", x.worth(0, 0, 0, 1, 0), NO);
        });
        cases.test("Promise 4: of three, each may go first", due -> {
            int[][] at = {{0, 4}, {1, 0}, {1, 3}};
            for (int gone = 0; gone < 3; gone++) {
                CornerCurves x = new CornerCurves();
                Scenes.put(x, 0, 4, 0, 1, 0, 1, 1, 3, 2);
                due.is("take", x.take(0, at[gone][0], at[gone][1]), 2);
                for (int k = 0; k < 3; k++) {
                    due.is("TERM " + k, x.number(0, at[k][0], at[k][1]), k == gone ? NO_NUMBER : k);
                }
            }
        });
        cases.test("Promise 4, BAD: there is none at the PLACE (any more)", due -> {
            CornerCurves x = new CornerCurves();
            Scenes.put(x, 0, 0, 1, 4, 4, 2);
            due.is("none", x.take(0, 0, 4), BAD);
            due.is("none", x.take(0, 4, 0), BAD);
            x.take(0, 4, 4);
            due.is("none any more", x.take(0, 4, 4), BAD);
            due.is("one is left", x.told(0, 1), 1);
        });
        cases.test("Promise 4, BAD: a PLACE that is none such", due -> {
            CornerCurves x = Scenes.rich();
            int[][] at = {{-1, 0}, {0, -1}, {5, 0}, {0, 5}, {9, 9}, {HUGE, 0}, {0, DEEP}};
            for (int[] a : at) {
                due.is("take", x.take(0, a[0], a[1]), BAD);
            }
        });
        cases.test("Promise 4, STATE: another KIND", due -> {
            CornerCurves x = Scenes.fourKinds();
            for (int f = 1; f < 4; f++) {
                due.is("take of KIND " + f, x.take(f, 0, 0), STATE);
                due.is("it stays", x.number(f, 0, 0) == NO_NUMBER ? 0 : 1, 1);
            }
        });
    }

    private static void sum() {
        cases.test("Promise 5: its number; KIND 1", due -> {
            CornerCurves x = new CornerCurves();
            Scenes.fork(x);
            due.is("sum", x.sum(0, 0), 1);
            due.is("KIND", x.told(1, 0), 1);
            due.is("sum of SUMS", x.sum(1, 1), 2);
            due.is("KIND", x.told(2, 0), 1);
            due.is("TERMS", x.told(2, 1), 15);
        });
        cases.test("Promise 5: the least of the sums of NUMBERS, whichever comes first", due -> {
            CornerCurves x = new CornerCurves();
            Scenes.put(x, 0, 0, 1, 1, 0, 2, 2, 0, -3);
            Scenes.put(x, 0, 0, 4, 1, 0, -5, 2, 0, 6);
            int[] want = {5, -4, -3, -8, 3};
            int s = x.sum(0, 1);
            int t = x.sum(1, 0);
            for (int i = 0; i < 5; i++) {
                due.is("(" + i + ", 0)", x.number(s, i, 0), want[i]);
                due.is("the other way", x.number(t, i, 0), want[i]);
            }
        });
        cases.test("Promise 5: with a FORM without TERMS there are none", due -> {
            CornerCurves x = Scenes.rich();
            due.is("sum", x.sum(0, 4), 5);
            due.is("TERMS", x.told(5, 1), 0);
            due.is("the other way", x.sum(4, 0), 6);
            due.is("TERMS", x.told(6, 1), 0);
            due.is("both", x.sum(4, 4), 7);
            due.is("KIND", x.told(7, 0), 1);
        });
        cases.test("Promise 5: PLACES up to 8", due -> {
            CornerCurves x = new CornerCurves();
            Scenes.flat(x, 4, 0);
            Scenes.flat(x, 0, 4);
            x.power(0, 2);
            x.power(1, 2);
            due.is("(8, 8)", x.number(x.sum(2, 3), 8, 8), 0);
            Scenes.flat(x, 1, 0);
            due.is("i 9", x.sum(2, 5), FULL);
            due.is("i 9, the other way", x.sum(5, 2), FULL);
            Scenes.flat(x, 0, 1);
            due.is("j 9", x.sum(3, 6), FULL);
            due.is("j 9, the other way", x.sum(6, 3), FULL);
        });
        cases.test("Promise 5, FULL: one PLACE of many is beyond 8", due -> {
            CornerCurves x = new CornerCurves();
            Scenes.flat(x, 0, 0, 4, 4);
            x.power(0, 2);
            Scenes.flat(x, 0, 0, 1, 0);
            due.is("i 9", x.sum(1, 2), FULL);
            Scenes.flat(x, 0, 0, 0, 1);
            due.is("j 9", x.sum(1, 3), FULL);
        });
        cases.test("Promise 5: the FORMS stand for themselves", due -> {
            CornerCurves x = new CornerCurves();
            Scenes.fork(x);
            x.sum(0, 0);
            x.term(0, 0, 0, 5);
            x.take(0, 1, 0);
            due.is("the SUM has its own", x.number(1, 0, 0), 0);
            due.is("all of them", x.told(1, 1), 6);
            due.is("the FORM has its own", x.told(0, 1), 2);
        });
    }

    private static void sumsThatAreFull() {
        cases.test("Promise 5: NUMBERS up to 200", due -> {
            CornerCurves x = new CornerCurves();
            int most = Scenes.twoHundred(x, 1);
            due.is("200", x.number(most, 0, 0), 200);
            due.is("200 + 0", x.number(x.sum(most, Scenes.dot(x, 0)), 0, 0), 200);
            int one = Scenes.dot(x, 1);
            due.is("201", x.sum(most, one), FULL);
            due.is("201, the other way", x.sum(one, most), FULL);
            due.is("how many", x.count(0), 8);
        });
        cases.test("Promise 5: NUMBERS down to -200", due -> {
            CornerCurves x = new CornerCurves();
            int least = Scenes.twoHundred(x, -1);
            due.is("-200", x.number(least, 0, 0), -200);
            due.is("-200 + 0", x.number(x.sum(least, Scenes.dot(x, 0)), 0, 0), -200);
            int one = Scenes.dot(x, -1);
            due.is("-201", x.sum(least, one), FULL);
            due.is("-201, the other way", x.sum(one, least), FULL);
        });
        cases.test("Promise 5, FULL: one NUMBER of many is beyond", due -> {
            CornerCurves x = new CornerCurves();
            int most = Scenes.twoHundred(x, 1);
            int last = Scenes.put(x, 0, 0, 0, 1, 0, -3, 4, 4, 1);
            due.is("the last one", x.sum(most, last), FULL);
            int first = Scenes.put(x, 0, 0, 1, 1, 0, -3, 4, 4, 0);
            due.is("the first one", x.sum(most, first), FULL);
            int none = Scenes.put(x, 0, 0, 0, 1, 0, -3, 4, 4, 0);
            due.is("none", x.sum(most, none), 8);
        });
        cases.test("Promise 5: a sum beyond 200 that is not the least at its PLACE is no NUMBER", due -> {
            CornerCurves x = new CornerCurves();
            int ten = Scenes.dot(x, 10);
            int ninety = x.sum(x.power(Scenes.dot(x, 20), 4), ten);
            int down = x.sum(ninety, Scenes.put(x, 0, 0, 20, 1, 0, -10));
            int up = x.sum(ninety, Scenes.put(x, 0, 0, -10, 1, 0, 20));
            int both = x.sum(down, up);
            due.is("110 + 80", x.number(both, 0, 0), 190);
            due.is("the least of 110 + 110 and 80 + 80", x.number(both, 1, 0), 160);
            due.is("80 + 110", x.number(both, 2, 0), 190);
        });
        cases.test("Promise 5: up to 40 TERMS", due -> {
            CornerCurves x = Scenes.crowd();
            due.is("sum", x.sum(4, 5), 6);
            due.is("TERMS", x.told(6, 1), 40);
        });
        cases.test("Promise 5, FULL: 41 TERMS", due -> {
            CornerCurves x = Scenes.crowd();
            due.is("sum", x.sum(1, 2), FULL);
            due.is("the other way", x.sum(2, 1), FULL);
        });
        cases.test("Promise 5: a tenth FORM may be a SUM", due -> {
            CornerCurves x = Scenes.fill(Scenes.rich(), 9);
            due.is("sum", x.sum(0, 0), 9);
            due.is("sum", x.sum(0, 0), FULL);
        });
    }

    private static void power() {
        cases.test("Promise 6: k 1 .. 4", due -> {
            CornerCurves x = new CornerCurves();
            Scenes.put(x, 0, 0, 3, 1, 1, -2);
            for (int k = 1; k <= 4; k++) {
                due.is("power", x.power(0, k), k);
                due.is("KIND", x.told(k, 0), 2);
                due.is("TERMS", x.told(k, 1), k + 1);
                due.is("(0, 0)", x.number(k, 0, 0), 3 * k);
                due.is("(k, k)", x.number(k, k, k), -2 * k);
            }
            due.is("k 0", x.power(0, 0), BAD);
            due.is("k 5", x.power(0, 5), BAD);
        });
        cases.test("Promise 6: to the 1, the same TERMS, of KIND 2", due -> {
            CornerCurves x = Scenes.fourKinds();
            for (int f = 0; f < 4; f++) {
                int p = x.power(f, 1);
                due.is("KIND", x.told(p, 0), 2);
                due.is("TERMS", x.told(p, 1), x.told(f, 1));
                due.is("SAME", x.same(p, f), 1);
            }
        });
        cases.test("Promise 6: k of it summed up", due -> {
            CornerCurves x = new CornerCurves();
            Scenes.put(x, 0, 0, 4, 1, 0, -3, 2, 0, 5, 0, 1, 7);
            x.sum(0, 0);
            x.sum(1, 0);
            x.sum(1, 1);
            for (int k = 2; k <= 4; k++) {
                int p = x.power(0, k);
                due.is("TERMS to the " + k, x.told(p, 1), x.told(k - 1, 1));
                for (int place = 0; place < 81; place++) {
                    due.is("PLACE " + place + " to the " + k, x.number(p, place / 9, place % 9),
                            x.number(k - 1, place / 9, place % 9));
                }
            }
        });
        cases.test("Promise 6: of a FORM without TERMS", due -> {
            CornerCurves x = Scenes.rich();
            for (int k = 1; k <= 4; k++) {
                due.is("power", x.power(4, k), 4 + k);
                due.is("TERMS", x.told(4 + k, 1), 0);
                due.is("KIND", x.told(4 + k, 0), 2);
            }
        });
        cases.test("Promise 6: the FORMS stand for themselves", due -> {
            CornerCurves x = new CornerCurves();
            Scenes.fork(x);
            x.power(0, 1);
            x.take(0, 0, 0);
            due.is("the POWER has its own", x.told(1, 1), 3);
        });
    }

    private static void powersThatAreFull() {
        cases.test("Promise 6: PLACES up to 8", due -> {
            CornerCurves x = new CornerCurves();
            Scenes.flat(x, 2, 1);
            due.is("(8, 4)", x.number(x.power(0, 4), 8, 4), 0);
            Scenes.flat(x, 0, 3);
            due.is("j 6", x.number(x.power(2, 2), 0, 6), 0);
            due.is("j 9", x.power(2, 3), FULL);
            due.is("j 12", x.power(2, 4), FULL);
            Scenes.flat(x, 3, 0);
            due.is("i 9", x.power(4, 3), FULL);
            due.is("how many", x.count(0), 5);
        });
        cases.test("Promise 6: NUMBERS up to 200", due -> {
            CornerCurves x = new CornerCurves();
            int fifty = x.sum(x.power(Scenes.dot(x, 20), 2), Scenes.dot(x, 10));
            due.is("4 times 50", x.number(x.power(fifty, 4), 0, 0), 200);
            int more = x.sum(x.power(0, 3), Scenes.dot(x, 7));
            due.is("2 times 67", x.number(x.power(more, 2), 0, 0), 134);
            due.is("3 times 67", x.power(more, 3), FULL);
            due.is("4 times 67", x.power(more, 4), FULL);
        });
        cases.test("Promise 6: NUMBERS down to -200", due -> {
            CornerCurves x = new CornerCurves();
            int fifty = x.sum(x.power(Scenes.dot(x, -20), 2), Scenes.dot(x, -10));
            due.is("4 times -50", x.number(x.power(fifty, 4), 0, 0), -200);
            int more = x.sum(x.power(0, 3), Scenes.dot(x, -7));
            due.is("2 times -67", x.number(x.power(more, 2), 0, 0), -134);
            due.is("3 times -67", x.power(more, 3), FULL);
        });
        cases.test("Promise 6: up to 40 TERMS", due -> {
            CornerCurves x = Scenes.crowd();
            due.is("power", x.power(3, 2), 6);
            due.is("TERMS", x.told(6, 1), 40);
        });
        cases.test("Promise 6, FULL: 41 TERMS", due -> {
            CornerCurves x = Scenes.crowd();
            due.is("power", x.power(0, 2), FULL);
            due.is("to the 1", x.power(0, 1), 6);
        });
        cases.test("Promise 6: a tenth FORM may be a POWER", due -> {
            CornerCurves x = Scenes.fill(Scenes.rich(), 9);
            due.is("power", x.power(0, 1), 9);
            due.is("power", x.power(0, 1), FULL);
        });
    }

    private static void move() {
        cases.test("Promise 7: u and v -10 .. 10", due -> {
            int[][] by = {{10, 10}, {-10, -10}, {10, -10}, {-10, 10}, {0, 0}};
            for (int[] b : by) {
                CornerCurves x = new CornerCurves();
                Scenes.put(x, 0, 0, 7, 1, 0, 7, 0, 1, 7, 3, 2, 7);
                due.is("move", x.move(0, b[0], b[1]), 1);
                due.is("KIND", x.told(1, 0), 1);
                due.is("TERMS", x.told(1, 1), 4);
                due.is("(0, 0)", x.number(1, 0, 0), 7);
                due.is("(1, 0)", x.number(1, 1, 0), 7 + b[0]);
                due.is("(0, 1)", x.number(1, 0, 1), 7 + b[1]);
                due.is("(3, 2)", x.number(1, 3, 2), 7 + 3 * b[0] + 2 * b[1]);
                due.is("the FORM stands for itself", x.number(0, 3, 2), 7);
            }
        });
        cases.test("Promise 7, BAD: u or v beyond", due -> {
            CornerCurves x = new CornerCurves();
            Scenes.fork(x);
            int[][] by = {{11, 0}, {-11, 0}, {0, 11}, {0, -11}, {HUGE, 0}, {0, DEEP}};
            for (int[] b : by) {
                due.is("move", x.move(0, b[0], b[1]), BAD);
            }
        });
        cases.test("Promise 7: NUMBERS up to 200", due -> {
            CornerCurves x = Scenes.sloped();
            due.is("200 and j 0", x.number(x.move(6, 0, 10), 1, 0), 200);
            due.is("201", x.move(6, 1, 0), FULL);
            due.is("201, whatever v", x.move(6, 1, -10), FULL);
            due.is("199", x.number(x.move(6, -1, 0), 1, 0), 199);
        });
        cases.test("Promise 7: NUMBERS down to -200", due -> {
            CornerCurves x = new CornerCurves();
            int least = x.sum(Scenes.twoHundred(x, -1), Scenes.flat(x, 0, 1));
            due.is("-200 and i 0", x.number(x.move(least, -10, 0), 0, 1), -200);
            due.is("-201", x.move(least, 0, -1), FULL);
            due.is("-199", x.number(x.move(least, 0, 1), 0, 1), -199);
        });
        cases.test("Promise 7: a FORM of 40 TERMS, and one of none", due -> {
            CornerCurves x = Scenes.crowd();
            due.is("TERMS", x.told(x.move(x.sum(4, 5), 1, -1), 1), 40);
            x.form();
            due.is("of none", x.told(x.move(8, 10, 10), 1), 0);
        });
        cases.test("Promise 7: of each KIND one of KIND 1 comes", due -> {
            CornerCurves x = Scenes.fourKinds();
            for (int f = 0; f < 4; f++) {
                due.is("KIND", x.told(x.move(f, 1, 1), 0), 1);
            }
        });
        cases.test("Promise 7: a tenth FORM may be MOVED", due -> {
            CornerCurves x = Scenes.fill(Scenes.rich(), 9);
            due.is("move", x.move(0, 0, 0), 9);
            due.is("move", x.move(0, 0, 0), FULL);
        });
    }

    private static void hide() {
        cases.test("Promise 8: primes 2, 3, 5, 7", due -> {
            CornerCurves x = new CornerCurves();
            x.sheet(0, 1, 9);
            x.cell(0, 0, 2 * 2 * 2 * 2 * 3 * 3 * 3 * 5 * 5 * 7);
            int[] primes = {2, 3, 5, 7};
            for (int k = 0; k < 4; k++) {
                due.is("hide", x.hide(0, 1, 0, primes[k]), k);
                due.is("KIND", x.told(k, 0), 3);
                due.is("how often " + primes[k] + " goes into it", x.number(k, 0, 0), 4 - k);
            }
            for (int q : new int[] {-2, 0, 1, 4, 6, 8, 9, 11}) {
                due.is("by " + q, x.hide(0, 1, 0, q), BAD);
            }
        });
        cases.test("Promise 8: nine PLACES by i, then by j", due -> {
            CornerCurves x = new CornerCurves();
            x.sheet(0, 2, 9);
            for (int k = 0; k < 9; k++) {
                x.cell(0, k, 1 << k);
            }
            x.hide(0, 2, 0, 2);
            due.is("TERMS", x.told(0, 1), 9);
            for (int k = 0; k < 9; k++) {
                due.is("item " + k, x.number(0, k / 3, k % 3), k);
            }
        });
        cases.test("Promise 8: from item s on, up to the last nine", due -> {
            CornerCurves x = new CornerCurves();
            x.sheet(3, 1, 40);
            for (int k = 0; k < 31; k++) {
                x.cell(3, k + 9, 1 << k);
            }
            due.is("s 31", x.hide(3, 1, 31, 2), 0);
            due.is("item 31", x.number(0, 0, 0), 22);
            due.is("item 39", x.number(0, 2, 2), 30);
            due.is("s 32", x.hide(3, 1, 32, 2), OUTSIDE);
            due.is("s 0", x.hide(3, 1, 0, 2), 1);
            due.is("all 0: no TERMS", x.told(1, 1), 0);
            due.is("s -1", x.hide(3, 1, -1, 2), OUTSIDE);
        });
        cases.test("Promise 8, -12: a SHEET of 8, of none", due -> {
            CornerCurves x = new CornerCurves();
            x.sheet(0, 0, 8);
            due.is("of 8", x.hide(0, 0, 0, 2), OUTSIDE);
            x.sheet(0, 0, 0);
            due.is("of none", x.hide(0, 0, 0, 2), OUTSIDE);
            x.sheet(0, 0, 9);
            due.is("of 9", x.hide(0, 0, 0, 2), 0);
            due.is("of 9 from 1 on", x.hide(0, 0, 1, 2), OUTSIDE);
        });
        cases.test("Promise 8, -11: a SHEET that is missing again", due -> {
            CornerCurves x = Scenes.rich();
            x.sheet(1, -1, 0);
            due.is("hide", x.hide(1, 1, 0, 2), NOTHING);
        });
        cases.test("Promise 8, -13: a SHEET that was of the sort before", due -> {
            CornerCurves x = Scenes.rich();
            x.sheet(1, 2, 9);
            due.is("ints", x.hide(1, 1, 0, 2), OTHER);
            due.is("longs", x.hide(1, 2, 0, 2), 5);
        });
        cases.test("Promise 8: the FORM stands for itself", due -> {
            CornerCurves x = Scenes.rich();
            int f = x.hide(1, 1, 0, 2);
            due.is("item 0 is 2", x.number(f, 0, 0), 1);
            x.cell(1, 0, 16);
            due.is("still", x.number(f, 0, 0), 1);
            x.sheet(1, -1, 0);
            due.is("still", x.number(f, 0, 0), 1);
        });
        cases.test("Promise 8: a tenth FORM may be HIDDEN", due -> {
            CornerCurves x = Scenes.fill(Scenes.rich(), 9);
            due.is("hide", x.hide(1, 1, 0, 2), 9);
            due.is("hide", x.hide(1, 1, 0, 2), FULL);
        });
    }

    private static void hiddenNumbers() {
        cases.test("Promise 8: a number that is 0 makes no TERM", due -> {
            CornerCurves x = new CornerCurves();
            x.sheet(0, 1, 9);
            x.hide(0, 1, 0, 7);
            due.is("TERMS of all 0", x.told(0, 1), 0);
            x.cell(0, 4, 1);
            x.hide(0, 1, 0, 7);
            due.is("TERMS", x.told(1, 1), 1);
            due.is("1 has none of it", x.number(1, 1, 1), 0);
        });
        cases.test("Promise 8: numbers below 0", due -> {
            CornerCurves x = new CornerCurves();
            x.sheet(0, 2, 9);
            x.cell(0, 0, -1);
            x.cell(0, 1, -9);
            x.cell(0, 2, -10);
            x.hide(0, 2, 0, 3);
            due.is("-1", x.number(0, 0, 0), 0);
            due.is("-9", x.number(0, 0, 1), 2);
            due.is("-10", x.number(0, 0, 2), 0);
        });
        cases.test("Promise 8: the least and the greatest number", due -> {
            for (int sort = 1; sort < 3; sort++) {
                CornerCurves x = new CornerCurves();
                x.sheet(0, sort, 9);
                x.cell(0, 0, DEEP);
                x.cell(0, 1, HUGE);
                x.cell(0, 2, HUGE - 1);
                x.hide(0, sort, 0, 2);
                due.is("-2147483648", x.number(0, 0, 0), 31);
                due.is("2147483647", x.number(0, 0, 1), 0);
                due.is("2147483646", x.number(0, 0, 2), 1);
                x.hide(0, sort, 0, 3);
                due.is("-2147483648 by 3", x.number(1, 0, 0), 0);
                due.is("2147483646 by 3", x.number(1, 0, 2), 2);
            }
        });
        cases.test("Promise 8: bytes hold the lowest 8 bits, with their sign", due -> {
            CornerCurves x = new CornerCurves();
            x.sheet(0, 0, 9);
            int[] cells = {128, 127, 255, 256, 257, -128, -129, 126, 206};
            for (int k = 0; k < 9; k++) {
                x.cell(0, k, cells[k]);
            }
            x.hide(0, 0, 0, 2);
            int[] twos = {7, 0, 0, Scenes.NO_NUMBER, 0, 7, 0, 1, 1};
            x.hide(0, 0, 0, 5);
            int[] fives = {0, 0, 0, Scenes.NO_NUMBER, 0, 0, 0, 0, 2};
            for (int k = 0; k < 9; k++) {
                due.is("twos of " + cells[k], x.number(0, k / 3, k % 3), twos[k]);
                due.is("fives of " + cells[k], x.number(1, k / 3, k % 3), fives[k]);
            }
        });
    }

    private static void drop() {
        cases.test("Promise 9: how many there are, down to 0", due -> {
            CornerCurves x = Scenes.full();
            for (int k = 9; k >= 0; k--) {
                due.is("drop", x.drop(), k);
                due.is("how many", x.count(0), k);
                due.is("it is gone", x.told(k, 0), BAD);
            }
        });
        cases.test("Promise 9, STATE: there is none", due -> {
            CornerCurves x = Scenes.emptied();
            due.is("drop", x.drop(), STATE);
            due.is("again", x.drop(), STATE);
            due.is("how many", x.count(0), 0);
            due.is("the next is numbered 0", x.form(), 0);
        });
        cases.test("Promise 9: the FORM that came last goes, the others stay", due -> {
            CornerCurves x = Scenes.fourKinds();
            due.is("drop", x.drop(), 3);
            due.is("KIND of 2", x.told(2, 0), 2);
            due.is("TERMS of 2", x.told(2, 1), 3);
            due.is("TERMS of 1", x.told(1, 1), 6);
            due.is("TERMS of 0", x.told(0, 1), 3);
        });
        cases.test("Promise 9: a new one where one was has nothing of it", due -> {
            CornerCurves x = new CornerCurves();
            Scenes.bowl(x);
            due.is("EDGES", x.told(0, 2), 5);
            x.drop();
            x.form();
            due.is("EDGES", x.told(0, 2), 0);
            due.is("CORNERS", x.told(0, 3), 0);
            due.is("AREA", x.told(0, 4), 0);
            due.is("IDLE", x.told(0, 6), 0);
            due.is("TERMS", x.told(0, 1), 0);
        });
        cases.test("Promise 9: a SUM stays when the FORMS it is of are gone, and serves", due -> {
            CornerCurves x = new CornerCurves();
            Scenes.fork(x);
            Scenes.fork(x);
            x.sum(0, 1);
            x.drop();
            x.drop();
            due.is("a POWER in its place", x.power(0, 2), 1);
            due.is("TERMS", x.told(1, 1), 6);
            due.is("KIND", x.told(1, 0), 2);
        });
    }

    private static void taken() {
        cases.test("Promise 33: k 0 .. 3, of its own KIND", due -> {
            CornerCurves x = Scenes.fourKinds();
            int[] terms = {3, 6, 3, 2};
            for (int k = 0; k < 4; k++) {
                due.is("taken", x.taken(k, k), terms[k]);
            }
            due.is("k -1", x.taken(0, -1), BAD);
            due.is("k 4", x.taken(0, 4), BAD);
        });
        cases.test("Promise 33: one under that one, also by others between", due -> {
            CornerCurves x = Scenes.fourKinds();
            due.is("a SUM for a FORM", x.taken(1, 0), 6);
            due.is("a POWER for a SUM", x.taken(2, 1), 3);
            due.is("a POWER for a FORM", x.taken(2, 0), 3);
            due.is("a HIDDEN one for a FORM", x.taken(3, 0), 2);
        });
        cases.test("Promise 33, -13: not one under that one", due -> {
            CornerCurves x = Scenes.fourKinds();
            int[][] not = {{0, 1}, {0, 2}, {0, 3}, {1, 2}, {1, 3}, {2, 3}, {3, 1}, {3, 2}};
            for (int[] n : not) {
                due.is("taken(" + n[0] + ", " + n[1] + ")", x.taken(n[0], n[1]), OTHER);
            }
        });
        cases.test("Promise 33, -11: no such FORM", due -> {
            CornerCurves x = Scenes.fourKinds();
            for (int f : new int[] {4, -1, 9, 10, HUGE, DEEP}) {
                due.is("taken(" + f + ", 0)", x.taken(f, 0), NOTHING);
            }
            x.drop();
            due.is("one that went", x.taken(3, 3), NOTHING);
        });
        cases.test("Promise 33: a FORM without TERMS", due -> {
            CornerCurves x = new CornerCurves();
            x.form();
            due.is("taken", x.taken(0, 0), 0);
            due.is("for a SUM", x.taken(0, 1), OTHER);
        });
        cases.test("Promise 33: a MOVED one is a SUM", due -> {
            CornerCurves x = Scenes.fourKinds();
            int m = x.move(3, 0, 0);
            due.is("for a SUM", x.taken(m, 1), 2);
            due.is("for a HIDDEN one", x.taken(m, 3), OTHER);
        });
    }
}
