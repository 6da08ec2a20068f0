/** Each promise by hand: ordinary inputs, the edges that the document names, wrong inputs. */
public final class PromiseTest {
    private static final int NONE = -1, BAD = -2, STATE = -3, FULL = -4;
    private static final int NOTHING = -11, OUTSIDE = -12, OTHER = -13, BELOW = -14;
    private static final int NO_NUMBER = -100000;
    private static final long NO = -4611686018427387904L;
    private static final int HUGE = Integer.MAX_VALUE, DEEP = Integer.MIN_VALUE;
    private static final Due due = new Due();

    public static void main(String[] args) {
        constants();
        newObject();
        formAndDrop();
        term();
        take();
        sum();
        power();
        move();
        hide();
        toldOfAll();
        number();
        worth();
        leastAt();
        idle();
        same();
        edge();
        endAndCorner();
        amount();
        meets();
        meetsThatDoNotCrossWell();
        root();
        writeRowForge();
        check();
        act();
        trace();
        count();
        sheet();
        cell();
        copy();
        taken();
        refusalsChangeNothing();
        largeForms();
        due.close();
    }

    private static int put(CornerCurves x, int... told) {
        return Scenes.put(x, told);
    }

    private static void constants() {
        due.about("the face");
        due.is("NONE", CornerCurves.NONE, -1);
        due.is("BAD", CornerCurves.BAD, -2);
        due.is("STATE", CornerCurves.STATE, -3);
        due.is("FULL", CornerCurves.FULL, -4);
        due.is("NO", CornerCurves.NO, -4611686018427387904L);
    }

    private static void newObject() {
        due.about("1 a new object");
        CornerCurves x = new CornerCurves();
        due.is("count(0)", x.count(0), 0);
        due.is("count(1)", x.count(1), 0);
        due.is("count(2)", x.count(2), 0);
        due.is("row(0)", x.row(0), NO);
        due.is("trace(0)", x.trace(0), NONE);
        due.is("told(0, 0)", x.told(0, 0), BAD);
        due.is("cell of a missing sheet", x.cell(0, 0, 1), NOTHING);
        due.is("cell of a missing sheet", x.cell(3, 0, 1), NOTHING);
        put(x, 0, 0, 1);
        due.is("another object has its own", new CornerCurves().count(0), 0);
    }

    private static void formAndDrop() {
        due.about("2 form, 9 drop");
        CornerCurves x = new CornerCurves();
        due.is("drop of none", x.drop(), STATE);
        for (int k = 0; k < 10; k++) {
            due.is("form()", x.form(), k);
        }
        due.is("form() beyond 10", x.form(), FULL);
        due.is("KIND", x.told(9, 0), 0);
        due.is("TERMS", x.told(9, 1), 0);
        due.is("term", x.term(9, 1, 1, 5), 1);
        due.is("drop()", x.drop(), 9);
        due.is("the one dropped is gone", x.told(9, 1), BAD);
        due.is("form()", x.form(), 9);
        due.is("it is without TERMS again", x.told(9, 1), 0);
        due.is("its number", x.number(9, 1, 1), NO_NUMBER);
        for (int k = 9; k >= 0; k--) {
            due.is("drop()", x.drop(), k);
        }
        due.is("drop of none", x.drop(), STATE);
    }

    private static void term() {
        due.about("3 term");
        CornerCurves x = new CornerCurves();
        due.is("no FORM", x.term(0, 0, 0, 0), BAD);
        int f = x.form();
        int[][] bad = {{-1, 0, 0, 0}, {1, 0, 0, 0}, {HUGE, 0, 0, 0}, {DEEP, 0, 0, 0}, {0, -1, 0, 0}, {0, 5, 0, 0},
                {0, 0, -1, 0}, {0, 0, 5, 0}, {0, 0, 0, 21}, {0, 0, 0, -21}, {0, HUGE, 0, 0}, {0, 0, DEEP, 0}};
        for (int[] b : bad) {
            due.is("term as not told", x.term(b[0], b[1], b[2], b[3]), BAD);
        }
        due.is("still none", x.told(f, 1), 0);
        for (int k = 0; k < 12; k++) {
            due.is("term", x.term(f, k / 5, k % 5, k % 2 == 0 ? 20 : -20), k + 1);
        }
        due.is("a thirteenth", x.term(f, 4, 4, 0), FULL);
        due.is("a thirteenth, not as told", x.term(f, 4, 4, 21), BAD);
        due.is("a new NUMBER for one there", x.term(f, 0, 0, 7), 12);
        due.is("it has it", x.number(f, 0, 0), 7);
        due.is("another keeps its own", x.number(f, 0, 1), -20);
        due.is("no TERM came", x.number(f, 4, 4), NO_NUMBER);
        int g = put(x, 0, 0, 0);
        int s = x.sum(g, g);
        due.is("term of a SUM", x.term(s, 0, 0, 0), STATE);
        due.is("term of a SUM, not as told", x.term(s, 5, 0, 0), BAD);
        x.drop();
        s = x.power(g, 2);
        due.is("term of a POWER", x.term(s, 0, 0, 0), STATE);
    }

    private static void take() {
        due.about("4 take");
        CornerCurves x = new CornerCurves();
        due.is("no FORM", x.take(0, 0, 0), BAD);
        int f = put(x, 0, 0, 1, 2, 1, 2, 2, 3, 3, 4, 4, 4);
        due.is("none there", x.take(f, 1, 1), BAD);
        due.is("a place beyond", x.take(f, 9, 9), BAD);
        due.is("a place below", x.take(f, -1, 9), BAD);
        due.is("take", x.take(f, 2, 1), 3);
        due.is("it is gone", x.number(f, 2, 1), NO_NUMBER);
        due.is("again", x.take(f, 2, 1), BAD);
        due.is("the next stays", x.number(f, 2, 3), 3);
        due.is("the last stays", x.number(f, 4, 4), 4);
        due.is("the first stays", x.number(f, 0, 0), 1);
        int s = x.sum(f, f);
        due.is("take of a SUM", x.take(s, 0, 0), STATE);
        due.is("take of a SUM, beyond the PLACES of a FORM", x.take(s, 8, 8), STATE);
        due.is("take of a SUM, none there", x.take(s, 1, 1), BAD);
        due.is("take", x.take(f, 4, 4), 2);
        due.is("take", x.take(f, 0, 0), 1);
        due.is("take", x.take(f, 2, 3), 0);
        due.is("the SUM stands for itself", x.told(s, 1), 6);
    }

    private static void sum() {
        due.about("5 sum");
        CornerCurves x = new CornerCurves();
        int a = put(x, 0, 0, 3, 1, 0, -1, 0, 1, 2);
        int b = put(x, 0, 0, 1, 1, 0, 5, 1, 1, -4);
        due.is("no first", x.sum(2, 0), BAD);
        due.is("no second", x.sum(0, -1), BAD);
        int s = x.sum(a, b);
        due.is("sum", s, 2);
        due.is("KIND", x.told(s, 0), 1);
        due.is("TERMS", x.told(s, 1), 7);
        due.is("(0, 0)", x.number(s, 0, 0), 4);
        due.is("(1, 0): the least of 3 + 5 and -1 + 1", x.number(s, 1, 0), 0);
        due.is("(2, 0)", x.number(s, 2, 0), 4);
        due.is("(0, 1)", x.number(s, 0, 1), 3);
        due.is("(1, 1): the least of 3 - 4 and 2 + 5", x.number(s, 1, 1), -1);
        due.is("(2, 1)", x.number(s, 2, 1), -5);
        due.is("(1, 2)", x.number(s, 1, 2), -2);
        int none = x.form();
        int t = x.sum(none, a);
        due.is("with one without TERMS", t, 4);
        due.is("it has none", x.told(t, 1), 0);
        due.is("its KIND", x.told(t, 0), 1);
        int p = put(x, 4, 4, 20);
        int q = x.sum(p, p);
        due.is("PLACE (8, 8)", x.number(q, 8, 8), 40);
        due.is("a PLACE beyond 8", x.sum(q, a), FULL);
        due.is("without TERMS no PLACE is beyond", x.sum(q, none), 7);
        numbersBeyond();
        tooManyTerms();
        CornerCurves y = new CornerCurves();
        for (int k = 0; k < 10; k++) {
            y.form();
        }
        due.is("10 FORMS", y.sum(0, 1), FULL);
        due.is("10 FORMS, no such", y.sum(0, 10), BAD);
    }

    private static void numbersBeyond() {
        CornerCurves x = new CornerCurves();
        int f = put(x, 0, 0, 20);
        int g = put(x, 0, 0, -20);
        int p4 = x.power(f, 4);
        int q4 = x.power(g, 4);
        int p8 = x.sum(p4, p4);
        int q8 = x.sum(q4, q4);
        due.is("160", x.number(p8, 0, 0), 160);
        int h = x.sum(p8, f);
        due.is("180", x.number(h, 0, 0), 180);
        due.is("200 is not beyond", x.sum(h, f), 7);
        due.is("220 is", x.sum(7, f), FULL);
        int up = put(x, 0, 0, 1);
        due.is("201 is", x.sum(7, up), FULL);
        x.drop();
        x.drop();
        x.drop();
        h = x.sum(q8, g);
        due.is("-200 is not beyond", x.sum(h, g), 7);
        due.is("-220 is", x.sum(7, g), FULL);
        int down = put(x, 0, 0, -1);
        due.is("-201 is", x.sum(7, down), FULL);
        due.is("nothing came", x.count(0), 9);
    }

    private static void tooManyTerms() {
        CornerCurves x = new CornerCurves();
        int a = put(x, 0, 0, 0, 1, 0, 0, 2, 0, 0, 3, 0, 0, 4, 0, 0);
        int b = put(x, 0, 0, 0, 0, 1, 0, 0, 2, 0, 0, 3, 0, 0, 4, 0);
        int c = x.sum(a, b);
        due.is("25 TERMS", x.told(c, 1), 25);
        int d = put(x, 0, 0, 0, 1, 0, 0, 2, 0, 0, 3, 0, 0);
        int e = x.sum(c, d);
        due.is("8 times 5 TERMS", x.told(e, 1), 40);
        due.is("9 times 5 TERMS", x.sum(c, a), FULL);
        int one = put(x, 0, 0, 0, 0, 1, 0);
        due.is("8 times 6 TERMS", x.sum(e, one), FULL);
    }

    private static void power() {
        due.about("6 power");
        CornerCurves x = new CornerCurves();
        due.is("no FORM", x.power(0, 2), BAD);
        int f = put(x, 0, 0, 0, 1, 0, 3, 2, 0, 4);
        due.is("k 0", x.power(f, 0), BAD);
        due.is("k 5", x.power(f, 5), BAD);
        due.is("k below", x.power(f, DEEP), BAD);
        int p1 = x.power(f, 1);
        due.is("to the 1", x.told(p1, 1), 3);
        due.is("KIND", x.told(p1, 0), 2);
        due.is("same", x.same(p1, f), 1);
        int p2 = x.power(f, 2);
        due.is("to the 2", x.told(p2, 1), 5);
        due.is("(2, 0): the least of 3 + 3 and 0 + 4", x.number(p2, 2, 0), 4);
        due.is("(3, 0)", x.number(p2, 3, 0), 7);
        due.is("(4, 0)", x.number(p2, 4, 0), 8);
        int p4 = x.power(f, 4);
        due.is("to the 4", x.told(p4, 1), 9);
        due.is("(8, 0)", x.number(p4, 8, 0), 16);
        due.is("(5, 0)", x.number(p4, 5, 0), 11);
        due.is("a POWER of a POWER", x.power(p2, 2), 4);
        due.is("they are THE SAME", x.same(4, p4), 1);
        due.is("a PLACE beyond", x.power(p4, 2), FULL);
        int g = put(x, 0, 0, 20);
        int g4 = x.power(g, 4);
        due.is("80", x.number(g4, 0, 0), 80);
        due.is("to the 2: 160", x.number(x.power(g4, 2), 0, 0), 160);
        due.is("to the 3: 240, beyond", x.power(g4, 3), FULL);
        int none = x.form();
        due.is("none to the 4", x.power(none, 4), 9);
        due.is("has none", x.told(9, 1), 0);
        due.is("10 FORMS", x.power(f, 1), FULL);
        due.is("10 FORMS, k 5", x.power(f, 5), BAD);
        CornerCurves y = new CornerCurves();
        int square = put(y, 0, 0, 0, 1, 0, 0, 0, 1, 0, 1, 1, 0, 2, 0, 0, 0, 2, 0, 2, 1, 0, 1, 2, 0, 2, 2, 0);
        due.is("to the 2: 25 TERMS", y.told(y.power(square, 2), 1), 25);
        due.is("to the 3: 49 TERMS", y.power(square, 3), FULL);
    }

    private static void move() {
        due.about("7 move");
        CornerCurves x = new CornerCurves();
        due.is("no FORM", x.move(0, 1, 1), BAD);
        int f = put(x, 0, 0, 5, 3, 0, -1, 1, 2, 0);
        due.is("u 11", x.move(f, 11, 0), BAD);
        due.is("u -11", x.move(f, -11, 0), BAD);
        due.is("v 11", x.move(f, 0, 11), BAD);
        due.is("v -11", x.move(f, 0, -11), BAD);
        int g = x.move(f, 10, -10);
        due.is("move", g, 1);
        due.is("KIND", x.told(g, 0), 1);
        due.is("TERMS", x.told(g, 1), 3);
        due.is("(0, 0)", x.number(g, 0, 0), 5);
        due.is("(3, 0)", x.number(g, 3, 0), 29);
        due.is("(1, 2)", x.number(g, 1, 2), -10);
        int h = put(x, 4, 4, 20);
        int p = x.power(h, 2);
        int q = x.move(p, 10, 10);
        due.is("40 + 160", x.number(q, 8, 8), 200);
        due.is("201", x.move(q, 1, 0), FULL);
        due.is("as before", x.number(x.move(q, -10, -10), 8, 8), 40);
        while (x.form() != FULL) {
            x.count(0);
        }
        due.is("10 FORMS", x.move(f, 0, 0), FULL);
        due.is("10 FORMS, u 11", x.move(f, 11, 0), BAD);
    }

    private static void hide() {
        due.about("8 hide");
        CornerCurves x = new CornerCurves();
        int[] items = {0, 9, -18, 5, DEEP, 81, 1, -1, 0, 27, 200};
        x.sheet(0, 1, 11);
        x.sheet(1, 0, 10);
        for (int k = 0; k < items.length; k++) {
            x.cell(0, k, items[k]);
            x.cell(1, k, items[k]);
        }
        due.is("hide", x.hide(0, 1, 0, 3), 0);
        due.is("KIND", x.told(0, 0), 3);
        due.is("TERMS: 0 makes none", x.told(0, 1), 7);
        due.is("(0, 0) of 0", x.number(0, 0, 0), NO_NUMBER);
        due.is("(0, 1) of 9", x.number(0, 0, 1), 2);
        due.is("(0, 2) of -18", x.number(0, 0, 2), 2);
        due.is("(1, 0) of 5", x.number(0, 1, 0), 0);
        due.is("(1, 2) of 81", x.number(0, 1, 2), 4);
        due.is("(2, 0) of 1", x.number(0, 2, 0), 0);
        due.is("(2, 2) of 0", x.number(0, 2, 2), NO_NUMBER);
        due.is("from item 2", x.hide(0, 1, 2, 2), 1);
        due.is("(0, 0) of -18", x.number(1, 0, 0), 1);
        due.is("(0, 2) of the least int", x.number(1, 0, 2), 31);
        due.is("(2, 1) of 27", x.number(1, 2, 1), 0);
        due.is("(2, 2) of 200", x.number(1, 2, 2), 3);
        due.is("(2, 0) of 0", x.number(1, 2, 0), NO_NUMBER);
        due.is("bytes", x.hide(1, 0, 0, 3), 2);
        due.is("of bytes only the lowest 8 bits", x.told(2, 1), 6);
        due.is("(0, 2) of -18", x.number(2, 0, 2), 2);
        due.is("by 5", x.number(x.hide(0, 1, 0, 5), 1, 0), 1);
        due.is("by 7", x.number(x.hide(0, 1, 0, 7), 1, 0), 0);
        due.is("past the end", x.hide(0, 1, 3, 2), OUTSIDE);
        due.is("far past the end", x.hide(0, 1, HUGE, 2), OUTSIDE);
        due.is("below", x.hide(0, 1, -1, 2), OUTSIDE);
        due.is("another sort", x.hide(0, 2, -1, 2), OTHER);
        due.is("another sort", x.hide(1, 1, 0, 2), OTHER);
        due.is("missing", x.hide(2, 1, -1, 2), NOTHING);
        int[][] bad = {{-1, 1, 0, 2}, {4, 1, 0, 2}, {0, -1, 0, 2}, {0, 3, 0, 2}, {0, 1, 0, 0}, {0, 1, 0, 1},
                {0, 1, 0, 4}, {0, 1, 0, 11}, {0, 1, 0, -2}, {2, -1, 0, 2}, {2, 1, 0, 9}};
        for (int[] b : bad) {
            due.is("hide as not told", x.hide(b[0], b[1], b[2], b[3]), BAD);
        }
        due.is("still five", x.count(0), 5);
        while (x.form() != FULL) {
            x.count(0);
        }
        due.is("10 FORMS", x.hide(0, 1, 0, 3), FULL);
        due.is("10 FORMS, outside", x.hide(0, 1, 5, 3), OUTSIDE);
        due.is("10 FORMS, another sort", x.hide(0, 0, 5, 3), OTHER);
        byteWithItsSign();
    }

    private static void byteWithItsSign() {
        CornerCurves x = new CornerCurves();
        x.sheet(0, 0, 9);
        x.cell(0, 0, 200);
        x.cell(0, 1, 256);
        x.hide(0, 0, 0, 5);
        due.is("200 as a byte is -56", x.number(0, 0, 0), 0);
        due.is("256 as a byte is 0", x.told(0, 1), 1);
        x.hide(0, 0, 0, 7);
        due.is("7 goes into -56", x.number(1, 0, 0), 1);
    }

    private static void toldOfAll() {
        due.about("10 told");
        CornerCurves x = new CornerCurves();
        int f = Scenes.bowl(x);
        int[] want = {0, 5, 5, 2, 4, 0, 1, 1, 4, 0};
        for (int k = 0; k < want.length; k++) {
            due.is("told(f, " + k + ")", x.told(f, k), want[k]);
        }
        due.is("what 10", x.told(f, 10), BAD);
        due.is("what -1", x.told(f, -1), BAD);
        due.is("no FORM", x.told(1, 0), BAD);
        due.is("no FORM", x.told(-1, 0), BAD);
        int none = x.form();
        int[] ofNone = {0, 0, 0, 0, 0, 1, 0, 0, 0, 0};
        int one = put(x, 2, 3, 4);
        int[] ofOne = {0, 1, 0, 0, 0, 1, 0, 0, 0, 0};
        int lines = put(x, 0, 0, 0, 1, 1, 0, 2, 2, 3, 3, 3, 3, 4, 4, 7);
        int[] ofLines = {0, 5, 3, 0, 0, 0, 1, 0, 0, 3};
        int smooth = put(x, 0, 0, 0, 1, 0, 0, 0, 1, 0, 1, 1, 2);
        int[] ofSmooth = {0, 4, 5, 2, 2, 1, 0, 1, 4, 0};
        int thick = put(x, 0, 0, 0, 2, 0, 0, 0, 1, 0);
        int[] ofThick = {0, 3, 3, 1, 2, 0, 0, 0, 3, 0};
        int cross = put(x, 0, 0, 0, 1, 0, 0, 0, 1, 0, 1, 1, 0);
        due.is("a first CORNER of AREA 2", x.told(cross, 5), 0);
        int line = put(x, 0, 0, 0, 1, 2, 9);
        int[] ofLine = {0, 2, 1, 0, 0, 1, 0, 0, 0, 1};
        for (int k = 0; k < 10; k++) {
            due.is("none, " + k, x.told(none, k), ofNone[k]);
            due.is("one, " + k, x.told(one, k), ofOne[k]);
            due.is("lines, " + k, x.told(lines, k), ofLines[k]);
            due.is("smooth, " + k, x.told(smooth, k), ofSmooth[k]);
            due.is("thick, " + k, x.told(thick, k), ofThick[k]);
            due.is("line, " + k, x.told(line, k), ofLine[k]);
        }
        x.term(one, 3, 3, 4);
        due.is("with one more a LINE", x.told(one, 9), 1);
        x.take(one, 3, 3);
        due.is("without it none", x.told(one, 9), 0);
    }

    private static void number() {
        due.about("11 number");
        CornerCurves x = new CornerCurves();
        int f = put(x, 0, 4, -20, 4, 0, 20);
        due.is("(0, 4)", x.number(f, 0, 4), -20);
        due.is("(4, 0)", x.number(f, 4, 0), 20);
        due.is("no TERM", x.number(f, 4, 4), NO_NUMBER);
        due.is("no such PLACE", x.number(f, -1, 0), NO_NUMBER);
        due.is("no such PLACE", x.number(f, HUGE, DEEP), NO_NUMBER);
        due.is("no FORM", x.number(1, 0, 4), NO_NUMBER);
        due.is("no FORM", x.number(-1, 0, 4), NO_NUMBER);
    }

    private static void worth() {
        due.about("12 worth");
        CornerCurves x = new CornerCurves();
        int f = put(x, 0, 0, 5, 2, 1, 3, 1, 4, -7);
        due.is("(0, 0) above", x.worth(f, 0, 0, 1, 0), -7);
        due.is("(0, 0) below", x.worth(f, 0, 0, 1, 1), 1);
        due.is("(-5/6, 10/6) above: x + 4 y - 7", x.worth(f, -5, 10, 6, 0), -7);
        due.is("(-5/6, 10/6) below", x.worth(f, -5, 10, 6, 1), 6);
        due.is("(1000, 1000)", x.worth(f, 1000, 1000, 1, 0), 5);
        due.is("(-1000, -1000)", x.worth(f, -1000, -1000, 1, 0), -5007);
        due.is("(-1000 / 100, 0)", x.worth(f, -1000, 0, 100, 0), -17);
        due.is("(-10 / 100, 10)", x.worth(f, -10, 1000, 100, 0), 5);
        due.is("(-505 / 100, 10) above: 2 x + y + 3", x.worth(f, -505, 1000, 100, 0), 29);
        due.is("(-505 / 100, 10) below", x.worth(f, -505, 1000, 100, 1), 10);
        int zero = put(x, 1, 0, 0);
        due.is("0 above", x.worth(zero, 0, 7, 9, 0), 0);
        due.is("0 below", x.worth(zero, 0, 7, 9, 1), 1);
        int[][] bad = {{f, 1001, 0, 1, 0}, {f, -1001, 0, 1, 0}, {f, 0, 1001, 1, 0}, {f, 0, -1001, 1, 0},
                {f, 0, 0, 0, 0}, {f, 0, 0, 101, 0}, {f, 0, 0, -1, 0}, {f, 0, 0, 1, 2}, {f, 0, 0, 1, -1},
                {9, 0, 0, 1, 0}, {-1, 0, 0, 1, 0}};
        for (int[] b : bad) {
            due.is("worth as not told", x.worth(b[0], b[1], b[2], b[3], b[4]), NO);
        }
        due.is("no TERMS", x.worth(x.form(), 0, 0, 1, 0), NO);
    }

    private static void leastAt() {
        due.about("13 leastAt");
        CornerCurves x = new CornerCurves();
        int f = Scenes.bowl(x);
        due.is("the CORNER (0, 1)", x.leastAt(f, 0, 1, 1), 3);
        due.is("the CORNER (1, 0)", x.leastAt(f, 1, 0, 1), 3);
        due.is("between", x.leastAt(f, 1, 1, 2), 2);
        due.is("beside", x.leastAt(f, 1, 1, 3), 1);
        due.is("far off", x.leastAt(f, 1000, 1000, 1), 1);
        due.is("a 1001", x.leastAt(f, 1001, 0, 1), BAD);
        due.is("b -1001", x.leastAt(f, 0, -1001, 1), BAD);
        due.is("q 0", x.leastAt(f, 0, 0, 0), BAD);
        due.is("q 101", x.leastAt(f, 0, 0, 101), BAD);
        due.is("no FORM", x.leastAt(1, 0, 0, 1), BAD);
        due.is("no TERMS", x.leastAt(x.form(), 0, 0, 1), BAD);
    }

    private static void idle() {
        due.about("14 idle");
        CornerCurves x = new CornerCurves();
        int f = put(x, 0, 0, 0, 2, 0, 0, 0, 2, 0, 2, 2, 0, 1, 1, 0, 1, 0, 1, 4, 4, 20);
        due.is("a place of the rim", x.idle(f, 0, 0), 0);
        due.is("in the middle, as deep", x.idle(f, 1, 1), 1);
        due.is("on a side, higher", x.idle(f, 1, 0), 1);
        due.is("the outermost", x.idle(f, 4, 4), 0);
        x.term(f, 1, 1, -1);
        due.is("in the middle, deeper", x.idle(f, 1, 1), 0);
        due.is("none there", x.idle(f, 3, 3), BAD);
        due.is("no FORM", x.idle(1, 0, 0), BAD);
        int one = put(x, 1, 1, 20);
        due.is("alone", x.idle(one, 1, 1), 0);
        x.term(one, 2, 2, 20);
        x.term(one, 3, 3, 20);
        due.is("between two", x.idle(one, 2, 2), 1);
        due.is("at the end", x.idle(one, 3, 3), 0);
    }

    private static void same() {
        due.about("15 same");
        CornerCurves x = new CornerCurves();
        int a = put(x, 0, 0, 0, 2, 0, 4, 1, 0, 2);
        int b = put(x, 0, 0, 0, 2, 0, 4);
        int c = put(x, 0, 0, 0, 2, 0, 4, 1, 0, 1);
        int d = put(x, 0, 0, 0, 2, 0, 4, 1, 0, 17);
        int e = put(x, 0, 0, 1, 2, 0, 5);
        int none = x.form();
        due.is("an IDLE TERM less", x.same(a, b), 1);
        due.is("and the other way", x.same(b, a), 1);
        due.is("one that is not IDLE", x.same(b, c), 0);
        due.is("and the other way", x.same(c, b), 0);
        due.is("IDLE TERMS with other NUMBERS", x.same(a, d), 1);
        due.is("higher by one all over", x.same(b, e), 0);
        due.is("with itself", x.same(e, e), 1);
        due.is("with none", x.same(b, none), 0);
        due.is("none with one", x.same(none, b), 0);
        due.is("none with itself", x.same(none, none), 1);
        due.is("none with another none", x.same(none, x.form()), 1);
        due.is("no FORM", x.same(0, 7), BAD);
        due.is("no FORM", x.same(-1, 0), BAD);
    }

    private static void edge() {
        due.about("16 edge");
        CornerCurves x = new CornerCurves();
        int f = Scenes.bowl(x);
        int[][] want = {
            {-1, 0, 2, 2, 0, 0, 0, 2},
            {-1, 1, 1, 1, 0, 0, 1, 1},
            {0, 1, 2, 2, 0, 0, 2, 0},
            {1, 1, 1, 2, 0, 2, 1, 1},
            {1, 1, 1, 2, 1, 1, 2, 0}};
        for (int e = 0; e < 5; e++) {
            for (int what = 0; what < 8; what++) {
                due.is("edge(" + e + ", " + what + ")", x.edge(f, e, what), want[e][what]);
            }
        }
        int line = put(x, 0, 4, 0, 4, 1, 7);
        due.is("a", x.edge(line, 0, 0), 3);
        due.is("b", x.edge(line, 0, 1), 4);
        due.is("WEIGHT", x.edge(line, 0, 2), 1);
        due.is("LINE", x.edge(line, 0, 3), 3);
        int three = put(x, 0, 0, 0, 2, 2, 0, 4, 4, 0);
        due.is("one EDGE of three TERMS", x.told(three, 2), 1);
        due.is("WEIGHT 4", x.edge(three, 0, 2), 4);
        due.is("the latter of its ENDS TERMS", x.edge(three, 0, 6), 4);
        due.is("no EDGE", x.edge(f, 5, 0), NO_NUMBER);
        due.is("no EDGE", x.edge(f, -1, 0), NO_NUMBER);
        due.is("no FORM", x.edge(3, 0, 0), NO_NUMBER);
        due.is("what 8", x.edge(f, 0, 8), NO_NUMBER);
        due.is("what -1", x.edge(f, 0, -1), NO_NUMBER);
        due.is("none without TERMS", x.edge(x.form(), 0, 0), NO_NUMBER);
    }

    private static void endAndCorner() {
        CornerCurves x = new CornerCurves();
        int f = Scenes.bowl(x);
        due.about("17 end");
        long[] no = {NO, NO, NO, NO};
        long[] low = {1, 1, 0, 1};
        long[] high = {0, 1, 1, 1};
        long[][] firsts = {no, low, high, no, no};
        long[][] lasts = {low, high, no, low, high};
        for (int e = 0; e < 5; e++) {
            for (int what = 0; what < 4; what++) {
                due.is("first of " + e, x.end(f, e, 0, what), firsts[e][what]);
                due.is("last of " + e, x.end(f, e, 1, what), lasts[e][what]);
            }
        }
        int line = put(x, 0, 0, 0, 1, 1, 7);
        due.is("of a LINE", x.end(line, 0, 0, 0), NO);
        due.is("of a LINE", x.end(line, 0, 1, 3), NO);
        int part = put(x, 0, 0, 0, 3, 1, 2, 1, 3, 1);
        due.is("x above", x.end(part, 0, 1, 0), -5);
        due.is("x below", x.end(part, 0, 1, 1), 8);
        due.is("y above", x.end(part, 0, 1, 2), -1);
        due.is("y below", x.end(part, 0, 1, 3), 8);
        int[][] bad = {{f, 5, 0, 0}, {f, -1, 0, 0}, {f, 1, 2, 0}, {f, 1, -1, 0}, {f, 1, 0, 4}, {f, 1, 0, -1},
                {9, 1, 0, 0}, {-1, 1, 0, 0}};
        for (int[] b : bad) {
            due.is("end as not told", x.end(b[0], b[1], b[2], b[3]), NO);
        }
        due.about("18 corner");
        long[][] want = {{0, 1, 1, 1, 3, 2, 3}, {1, 1, 0, 1, 3, 2, 3}};
        for (int c = 0; c < 2; c++) {
            for (int what = 0; what < 7; what++) {
                due.is("corner(" + c + ", " + what + ")", x.corner(f, c, what), want[c][what]);
            }
        }
        int cross = put(x, 0, 0, 0, 1, 0, 0, 0, 1, 0, 1, 1, 0);
        due.is("four are LEAST", x.corner(cross, 0, 4), 4);
        due.is("AREA 2", x.corner(cross, 0, 5), 2);
        due.is("four EDGES", x.corner(cross, 0, 6), 4);
        int full = put(x, 0, 0, 0, 2, 0, 0, 0, 2, 0, 1, 0, 0, 1, 1, 0);
        due.is("five are LEAST", x.corner(full, 0, 4), 5);
        due.is("AREA 4", x.corner(full, 0, 5), 4);
        due.is("three EDGES", x.corner(full, 0, 6), 3);
        int[][] none = {{f, 2, 0}, {f, -1, 0}, {f, 0, 7}, {f, 0, -1}, {9, 0, 0}, {line, 0, 0}};
        for (int[] b : none) {
            due.is("corner as not told", x.corner(b[0], b[1], b[2]), NO);
        }
        byXThenY();
    }

    private static void byXThenY() {
        CornerCurves x = new CornerCurves();
        int tall = put(x, 0, 0, 0, 1, 0, 0, 0, 1, 0, 1, 1, 2, 0, 2, 5);
        due.is("three CORNERS", x.told(tall, 3), 3);
        long[][] at = {{-2, -5}, {-2, -2}, {0, 0}};
        for (int c = 0; c < 3; c++) {
            due.is("x of " + c, x.corner(tall, c, 0), at[c][0]);
            due.is("y of " + c, x.corner(tall, c, 2), at[c][1]);
        }
        int same = put(x, 0, 0, 0, 0, 1, 0, 0, 2, 3, 1, 0, 0, 1, 1, 0, 1, 2, 3);
        due.is("two of one x", x.told(same, 3), 2);
        due.is("the lower first", x.corner(same, 0, 2), -3);
        due.is("then the upper", x.corner(same, 1, 2), 0);
    }

    private static void amount() {
        due.about("19 amount");
        CornerCurves x = new CornerCurves();
        int line = put(x, 0, 0, 0, 1, 0, 3, 0, 1, -2);
        int cube = put(x, 0, 0, 0, 3, 0, 0, 0, 3, 0);
        due.is("1 and 3", x.amount(line, cube), 3);
        due.is("3 and 3", x.amount(cube, cube), 9);
        int h = put(x, 0, 0, 0, 4, 0, 0);
        int v = put(x, 0, 0, 0, 0, 4, 0);
        due.is("stretches across", x.amount(h, v), 16);
        due.is("along", x.amount(h, h), 0);
        int dot = put(x, 4, 4, 5);
        due.is("a point", x.amount(dot, cube), 0);
        int none = x.form();
        due.is("no TERMS", x.amount(line, none), STATE);
        due.is("no TERMS", x.amount(none, line), STATE);
        due.is("no FORM", x.amount(none, 7), BAD);
        due.is("no FORM", x.amount(-1, line), BAD);
        int big = x.power(h, 2);
        due.is("a PLACE beyond 8", x.amount(big, line), STATE);
        due.is("a PLACE of 8", x.amount(big, v), 32);
        int wide = put(x, 0, 0, 0, 1, 0, 0, 2, 0, 0, 3, 0, 0, 4, 0, 0, 0, 1, 0, 0, 2, 0, 0, 3, 0, 0, 4, 0, 4, 4, 0);
        due.is("more than 40 TERMS do not matter", x.amount(wide, wide), 32);
    }

    private static void meets() {
        due.about("20 meets, 21 meet");
        CornerCurves x = new CornerCurves();
        int f = put(x, 0, 0, 0, 1, 0, 0, 0, 1, 0);
        int g = put(x, 2, 0, 0, 0, 3, 1);
        due.is("a LINE and a CURVE of RAYS", x.meets(f, g), 2);
        long[][] want = {{-1, 1, -1, 1, 1}, {1, 2, 0, 1, 2}};
        for (int i = 0; i < 2; i++) {
            for (int what = 0; what < 5; what++) {
                due.is("meet(" + i + ", " + what + ")", x.meet(f, g, i, what), want[i][what]);
                due.is("and the other way", x.meet(g, f, i, what), want[i][what]);
            }
        }
        int two = put(x, 0, 0, 0, 2, 0, 1);
        int three = put(x, 0, 0, 0, 0, 3, 1);
        due.is("two LINES", x.meets(two, three), 1);
        long[] at = {-1, 2, -1, 3, 6};
        for (int what = 0; what < 5; what++) {
            due.is("their meet, " + what, x.meet(two, three, 0, what), at[what]);
        }
        due.is("LINES side by side", x.meets(two, put(x, 0, 0, 0, 1, 0, 3)), 0);
        int none = x.form();
        due.is("none has no CURVE", x.meets(f, none), 0);
        due.is("none with itself", x.meets(none, none), 0);
        due.is("one TERM", x.meets(put(x, 3, 3, 3), f), 0);
        due.is("no MEET 0", x.meet(f, none, 0, 0), NO);
        int[][] bad = {{f, g, 2, 0}, {f, g, -1, 0}, {f, g, 0, 5}, {f, g, 0, -1}, {9, g, 0, 0}, {f, 9, 0, 0}};
        for (int[] b : bad) {
            due.is("meet as not told", x.meet(b[0], b[1], b[2], b[3]), NO);
        }
        due.is("no FORM", x.meets(9, f), BAD);
        due.is("no FORM", x.meets(f, -1), BAD);
    }

    private static void meetsThatDoNotCrossWell() {
        due.about("20 meets, CROSS WELL");
        CornerCurves x = new CornerCurves();
        int f = put(x, 0, 0, 0, 1, 0, 0, 0, 1, 0);
        due.is("with itself", x.meets(f, f), STATE);
        int moved = x.move(f, 2, 2);
        due.is("a RAY along a RAY", x.meets(f, moved), STATE);
        due.is("no MEET", x.meet(f, moved, 0, 0), NO);
        int through = put(x, 1, 0, 0, 0, 2, 0);
        due.is("a LINE through the CORNER", x.meets(f, through), STATE);
        due.is("and the other way", x.meets(through, f), STATE);
        due.is("no MEET", x.meet(through, f, 0, 4), NO);
        int apart = x.move(f, -5, 3);
        due.is("moved elsewhere", x.meets(f, apart), 1);
        int line = put(x, 0, 0, 0, 0, 1, 5);
        int over = put(x, 0, 0, 0, 0, 2, 10);
        due.is("LINES that are one", x.meets(line, over), STATE);
        int beside = put(x, 0, 0, 0, 0, 2, 9);
        due.is("LINES beside", x.meets(line, beside), 0);
        int back = put(x, 1, 0, 0, 0, 1, 0, 1, 1, 0);
        due.is("RAYS of one line that share their first point", x.meets(f, back), STATE);
    }

    private static void root() {
        due.about("22 root");
        CornerCurves x = new CornerCurves();
        int f = put(x, 0, 0, 6, 1, 0, 3, 2, 0, 2, 4, 0, 1);
        long[][] want = {{1, 2, 2}, {1, 1, 1}, {3, 1, 1}};
        for (int i = 0; i < 3; i++) {
            for (int what = 0; what < 3; what++) {
                due.is("root(" + i + ", " + what + ")", x.root(f, i, what), want[i][what]);
            }
        }
        due.is("root 3", x.root(f, 3, 0), NO);
        due.is("root -1", x.root(f, -1, 0), NO);
        due.is("what 3", x.root(f, 0, 3), NO);
        due.is("what -1", x.root(f, 0, -1), NO);
        due.is("no FORM", x.root(1, 0, 0), NO);
        x.term(f, 4, 1, 20);
        due.is("not of one letter", x.root(f, 0, 0), NO);
        x.take(f, 4, 1);
        due.is("of one letter again", x.root(f, 2, 0), 3);
        int j = put(x, 0, 0, 0, 0, 1, 0);
        due.is("of the other letter", x.root(j, 0, 0), NO);
        due.is("of none", x.root(x.form(), 0, 0), NO);
        int zero = put(x, 1, 0, 4, 3, 0, 4);
        due.is("0 above", x.root(zero, 0, 0), 0);
        due.is("0 below", x.root(zero, 0, 1), 1);
        due.is("twice", x.root(zero, 0, 2), 2);
    }

    private static void writeRowForge() {
        due.about("23 write, 24 row, 25 forge");
        CornerCurves x = new CornerCurves();
        due.is("no FORM", x.write(0), BAD);
        int f = put(x, 0, 0, 0, 2, 0, 0, 0, 2, 0, 1, 1, -1);
        long[] want = {-1, 0, 2, 2, -1, 1, 1, 1, 0, 1, 2, 2, 1, 1, 1, 2, 1, 1, 1, 2, 0, 1, 1, 1, 1, 1, 0, 1};
        due.is("write", x.write(f), want.length);
        for (int k = 0; k < want.length; k++) {
            due.is("row(" + k + ")", x.row(k), want[k]);
        }
        due.is("row(28)", x.row(28), NO);
        due.is("row(-1)", x.row(-1), NO);
        due.is("row(HUGE)", x.row(HUGE), NO);
        due.is("forge(27)", x.forge(27, Long.MIN_VALUE), 1);
        due.is("row(27)", x.row(27), Long.MIN_VALUE);
        due.is("forge(28)", x.forge(28, 5), BAD);
        due.is("forge(-1)", x.forge(-1, 5), BAD);
        due.is("write again", x.write(f), 28);
        due.is("row(27)", x.row(27), 1);
        x.drop();
        due.is("the ROWS stay", x.row(27), 1);
        due.is("their number too", x.count(1), 28);
        due.is("write of none", x.write(x.form()), 0);
        due.is("row(0)", x.row(0), NO);
        due.is("forge(0)", x.forge(0, 1), BAD);
    }

    private static void check() {
        due.about("26 check");
        CornerCurves x = new CornerCurves();
        due.is("no FORM", x.check(0), BAD);
        int none = x.form();
        due.is("none of none", x.check(none), NONE);
        int line = put(x, 0, 0, 0, 1, 1, 0);
        due.is("the ROWS have none", x.check(line), 0);
        due.is("write", x.write(line), 4);
        due.is("check", x.check(line), NONE);
        due.is("the FORM has none", x.check(none), 0);
        x.forge(3, 1);
        due.is("a wrong KIND", x.check(line), 3);
        x.forge(0, 7);
        due.is("the first one that is wrong", x.check(line), 0);
        x.forge(0, -1);
        x.forge(3, 3);
        due.is("right again", x.check(line), NONE);
        int lines = put(x, 0, 0, 0, 1, 1, 0, 2, 2, 1);
        due.is("the ROWS are too few", x.check(lines), 4);
        x.write(lines);
        due.is("the ROWS are too many", x.check(line), 4);
        x.term(line, 2, 2, 1);
        due.is("the FORM has changed", x.check(line), NONE);
        due.is("no FORM", x.check(-1), BAD);
    }

    private static void act() {
        due.about("27 act");
        CornerCurves x = Scenes.fourKinds();
        due.is("FORM lies", x.act(0, 0, 10), 13);
        due.is("FORM weighs", x.act(0, 1, 10), 39);
        due.is("FORM meets", x.act(0, 2, 10), 39 - 13);
        due.is("SUM lies", x.act(1, 0, 10), (10 + 6) ^ 7);
        due.is("SUM weighs", x.act(1, 1, 10), (16 ^ 7) * 3);
        due.is("SUM meets", x.act(1, 2, 10), (16 ^ 7) * 3 - (17 ^ 7) + (6 ^ 7));
        due.is("POWER lies", x.act(2, 0, 10), (13 ^ 7) * 2);
        due.is("POWER weighs", x.act(2, 1, 10), (12 ^ 7) * 2 * 3);
        due.is("POWER meets", x.act(2, 2, 10), (12 ^ 7) * 6 - (15 ^ 7) * 2 + (3 ^ 7) * 2);
        due.is("HIDDEN lies", x.act(3, 0, 10), 12);
        due.is("HIDDEN weighs", x.act(3, 1, 10), 36);
        due.is("HIDDEN meets", x.act(3, 2, 10), (36 - 15) ^ 36);
        due.is("wrapping", x.act(0, 0, HUGE), HUGE + 3);
        due.is("wrapping", x.act(0, 1, HUGE), (HUGE + 3) * 3);
        due.is("wrapping", x.act(2, 1, DEEP), ((DEEP - 1 + 3) ^ 7) * 6);
        due.is("bodies of the latest", x.count(2), 5);
        due.is("no act 3", x.act(0, 3, 1), 0);
        due.is("no TRACE then", x.count(2), 0);
        x.act(0, 0, 1);
        due.is("no act -1", x.act(0, -1, 1), 0);
        due.is("no TRACE then", x.trace(0), NONE);
        x.act(0, 0, 1);
        due.is("no FORM", x.act(4, 0, 1), 0);
        due.is("no TRACE then", x.count(2), 0);
    }

    private static void trace() {
        due.about("28 trace");
        int[][][] want = {
            {{10}, {11, 10}, {12, 11, 10, 10}},
            {{20, 10}, {11, 20, 10}, {21, 12, 11, 20, 10, 20, 10, 20, 10}},
            {{31, 20, 10}, {30, 11, 31, 20, 10}, {21, 12, 30, 11, 31, 20, 10, 31, 20, 10, 31, 20, 10}},
            {{10}, {11, 10}, {40, 12, 11, 10, 10, 11, 10}}};
        CornerCurves x = Scenes.fourKinds();
        for (int f = 0; f < 4; f++) {
            for (int act = 0; act < 3; act++) {
                x.act(f, act, 5);
                int[] bodies = want[f][act];
                due.is("how many of " + f + ", " + act, x.count(2), bodies.length);
                for (int k = 0; k < bodies.length; k++) {
                    due.is("trace(" + k + ") of " + f + ", " + act, x.trace(k), bodies[k]);
                }
                due.is("behind the last", x.trace(bodies.length), NONE);
            }
        }
        due.is("trace(-1)", x.trace(-1), NONE);
        due.is("trace(40)", x.trace(40), NONE);
        due.is("trace(HUGE)", x.trace(HUGE), NONE);
        x.drop();
        due.is("it stays", x.trace(0), 40);
    }

    private static void count() {
        due.about("29 count");
        CornerCurves x = Scenes.fourKinds();
        x.write(0);
        x.act(0, 1, 1);
        due.is("FORMS", x.count(0), 4);
        due.is("ROWS", x.count(1), 16);
        due.is("bodies", x.count(2), 2);
        due.is("what 3", x.count(3), BAD);
        due.is("what -1", x.count(-1), BAD);
    }

    private static void sheet() {
        due.about("30 sheet");
        CornerCurves x = new CornerCurves();
        for (int s = 0; s < 4; s++) {
            due.is("sheet", x.sheet(s, s % 3, 40), 1);
            due.is("its last item", x.cell(s, 39, 1), 1);
            due.is("behind it", x.cell(s, 40, 1), OUTSIDE);
        }
        due.is("no items", x.sheet(0, 0, 0), 1);
        due.is("item 0", x.cell(0, 0, 1), OUTSIDE);
        due.is("n 41", x.sheet(0, 0, 41), BAD);
        due.is("n HUGE", x.sheet(0, 0, HUGE), BAD);
        due.is("n -1", x.sheet(0, 0, -1), BELOW);
        due.is("n DEEP", x.sheet(3, 2, DEEP), BELOW);
        due.is("no such SHEET, n -1", x.sheet(4, 0, -1), BAD);
        due.is("no such SHEET", x.sheet(-1, 0, 1), BAD);
        due.is("no such sort", x.sheet(0, 3, 1), BAD);
        due.is("no such sort", x.sheet(0, -2, -1), BAD);
        due.is("still there", x.cell(3, 39, 1), 1);
        due.is("missing, whatever n", x.sheet(3, -1, -5), 1);
        due.is("missing", x.cell(3, 0, 1), NOTHING);
        due.is("missing, whatever n", x.sheet(2, -1, 41), 1);
        due.is("missing", x.cell(2, 0, 1), NOTHING);
        x.sheet(1, 1, 9);
        x.cell(1, 3, 8);
        x.sheet(1, 1, 9);
        due.is("all 0 again", x.told(x.hide(1, 1, 0, 2), 1), 0);
    }

    /** Item i of a SHEET of a sort, up to 255, told by hide(): how often 2 goes into it, or NO_NUMBER. */
    private static int twos(CornerCurves x, int sheet, int sort, int i) {
        int f = x.hide(sheet, sort, i, 2);
        int twos = f < 0 ? f : x.number(f, 0, 0);
        if (f >= 0) {
            x.drop();
        }
        return twos;
    }

    private static void cell() {
        due.about("31 cell");
        CornerCurves x = new CornerCurves();
        x.sheet(0, 0, 20);
        x.sheet(1, 1, 20);
        x.sheet(2, 2, 20);
        for (int sort = 0; sort < 3; sort++) {
            due.is("cell", x.cell(sort, 4, 256 + 16), 1);
            due.is("item 4", twos(x, sort, sort, 4), 4);
            due.is("cell", x.cell(sort, 4, 256), 1);
            due.is("item 4", twos(x, sort, sort, 4), sort == 0 ? NO_NUMBER : 8);
            due.is("cell", x.cell(sort, 4, DEEP), 1);
            due.is("item 4", twos(x, sort, sort, 4), sort == 0 ? NO_NUMBER : 31);
            due.is("item 3", twos(x, sort, sort, 3), NO_NUMBER);
            due.is("item 20", x.cell(sort, 20, 1), OUTSIDE);
            due.is("item -1", x.cell(sort, -1, 1), OUTSIDE);
        }
        due.is("missing", x.cell(3, -1, 1), NOTHING);
        due.is("no such SHEET", x.cell(4, 0, 1), BAD);
        due.is("no such SHEET", x.cell(-1, 0, 1), BAD);
    }

    private static void copy() {
        due.about("32 copy");
        CornerCurves x = new CornerCurves();
        x.sheet(0, 1, 30);
        x.sheet(1, 1, 20);
        x.sheet(2, 2, 20);
        for (int k = 0; k < 30; k++) {
            x.cell(0, k, 1 << k);
        }
        due.is("copy", x.copy(0, 10, 1, 5, 15), 15);
        due.is("before it", twos(x, 1, 1, 4), NO_NUMBER);
        due.is("its first", twos(x, 1, 1, 5), 10);
        due.is("its seventh", twos(x, 1, 1, 11), 16);
        due.is("onto itself, onwards", x.copy(0, 0, 0, 3, 20), 20);
        due.is("as they were", twos(x, 0, 0 + 1, 2), 2);
        due.is("as they were before", twos(x, 0, 1, 3), 0);
        due.is("as they were before", twos(x, 0, 1, 9), 6);
        due.is("onto itself, back", x.copy(0, 3, 0, 0, 20), 20);
        due.is("as at first", twos(x, 0, 1, 10), 10);
        due.is("none", x.copy(0, 30, 1, 20, 0), 0);
        due.is("all", x.copy(1, 0, 1, 0, 20), 20);
        int[][] outside = {{0, 0, 1, 0, -1}, {0, -1, 1, 0, 1}, {0, 0, 1, -1, 1}, {0, 0, 1, 0, 21}, {0, 11, 1, 0, 20},
                {0, 31, 1, 0, 0}, {0, 0, 1, 21, 0}, {0, 0, 1, 1, 20}, {0, HUGE, 1, 0, 2}, {0, 0, 1, HUGE, HUGE},
                {0, 1, 1, 0, HUGE}, {0, DEEP, 1, 0, 0}};
        for (int[] o : outside) {
            due.is("copy outside", x.copy(o[0], o[1], o[2], o[3], o[4]), OUTSIDE);
        }
        due.is("not of one sort", x.copy(0, -1, 2, 0, -1), OTHER);
        due.is("missing", x.copy(3, -1, 2, 0, -1), NOTHING);
        due.is("missing", x.copy(0, -1, 3, 0, -1), NOTHING);
        due.is("no such SHEET", x.copy(4, 0, 3, 0, 1), BAD);
        due.is("no such SHEET", x.copy(3, 0, -1, 0, 1), BAD);
    }

    private static void taken() {
        due.about("33 taken");
        CornerCurves x = Scenes.fourKinds();
        int[][] want = {{3, OTHER, OTHER, OTHER}, {6, 6, OTHER, OTHER}, {3, 3, 3, OTHER}, {2, OTHER, OTHER, 2}};
        for (int f = 0; f < 4; f++) {
            for (int k = 0; k < 4; k++) {
                due.is("taken(" + f + ", " + k + ")", x.taken(f, k), want[f][k]);
            }
        }
        due.is("k 4", x.taken(0, 4), BAD);
        due.is("k -1, no FORM", x.taken(9, -1), BAD);
        due.is("no FORM", x.taken(4, 3), NOTHING);
        due.is("no FORM", x.taken(-1, 3), NOTHING);
    }

    /** Slopes that all differ make as many LINES; a SUM of LINES across makes a lattice. */
    private static void largeForms() {
        due.about("large FORMS");
        CornerCurves x = new CornerCurves();
        int wide = put(x, 0, 0, 0, 1, 0, -6, 2, 0, -8, 3, 0, -6, 4, 0, 0);
        int wide2 = put(x, 0, 0, 0, 1, 0, -4, 2, 0, -4, 3, 0, 0);
        int tall = put(x, 0, 0, 0, 0, 1, -3, 0, 2, -4, 0, 3, -3, 0, 4, 0);
        int tall2 = put(x, 0, 0, 0, 0, 1, -7, 0, 2, -9, 0, 3, -5, 0, 4, 3);
        int seven = x.sum(wide, wide2);
        due.is("seven LINES", x.told(seven, 9), 7);
        due.is("the leftmost ROOT", x.root(seven, 0, 0), -6);
        due.is("the rightmost ROOT", x.root(seven, 6, 0), 6);
        int lattice = x.sum(seven, tall);
        int[] want = {1, 40, 7 * 5 + 4 * 8, 7 * 4, 2 * 7 * 4, 0, 0, 7 * 3 + 4 * 6, 7 * 2 + 4 * 2, 0};
        for (int what = 0; what < want.length; what++) {
            due.is("the lattice, " + what, x.told(lattice, what), want[what]);
        }
        due.is("its ROWS", x.write(lattice), 4 * (67 + 28));
        due.is("they are its proof", x.check(lattice), NONE);
        due.is("the last CORNER's x", x.row(4 * 95 - 4), 6);
        due.is("the last CORNER's y", x.row(4 * 95 - 2), 3);
        int eight = x.sum(tall, tall2);
        due.is("eight LINES", x.told(eight, 9), 8);
        due.is("7 times 8 MEETS", x.meets(seven, eight), 56);
        due.is("the last one's x", x.meet(seven, eight, 55, 0), 6);
        due.is("the last one's y", x.meet(eight, seven, 55, 2), 7);
        due.is("THE AMOUNT", x.amount(seven, eight), 56);
        int moved = x.move(lattice, 1, 0);
        due.is("a lattice along a lattice", x.meets(lattice, moved), STATE);
    }

    private static void refusalsChangeNothing() {
        due.about("refusals change nothing");
        CornerCurves x = Scenes.fourKinds();
        x.write(0);
        x.act(0, 2, 3);
        x.term(0, 9, 0, 0);
        x.take(0, 4, 4);
        x.sum(0, 9);
        x.power(0, 9);
        x.move(0, 99, 0);
        x.hide(0, 2, 1, 2);
        x.write(9);
        x.forge(99, 1);
        x.check(9);
        x.sheet(0, 2, 41);
        x.sheet(0, 2, -1);
        due.is("FORMS", x.count(0), 4);
        due.is("TERMS", x.told(0, 1), 3);
        due.is("ROWS", x.check(0), NONE);
        due.is("bodies", x.count(2), 4);
        due.is("the SHEET", x.hide(0, 2, 0, 2), 4);
        due.is("its TERMS", x.told(4, 1), 2);
    }
}
