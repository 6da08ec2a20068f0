/** Refusals: the first that the call's words name is answered, and nothing changes, whatever is asked afterwards. */
public final class RefusalsTest {
    private static final int BAD = Scenes.BAD, STATE = Scenes.STATE, FULL = Scenes.FULL;
    private static final int NOTHING = Scenes.NOTHING, OUTSIDE = Scenes.OUTSIDE, OTHER = Scenes.OTHER;
    private static final int BELOW = Scenes.BELOW, HUGE = Scenes.HUGE, DEEP = Scenes.DEEP;
    private static final int NO_NUMBER = Scenes.NO_NUMBER;
    private static final long NO = Scenes.NO;
    private static final Cases cases = new Cases();

    public static void main(String[] args) {
        formTermTake();
        sum();
        powerAndMove();
        hide();
        dropAndTold();
        worthToSame();
        edgeToRoot();
        proofs();
        sheetAndCell();
        copyAndTaken();
        answersThatChangeNothing();
        cases.close();
    }

    private static void refused(String sentence, Twins.Recipe recipe, long want, Twins.Call call) {
        cases.test("Promise " + sentence, due -> Twins.still(due, recipe, want, call));
    }

    private static void formTermTake() {
        refused("2, FULL: there are 10 FORMS", Scenes::full, FULL, CornerCurves::form);
        refused("3, BAD: no FORM above", Scenes::rich, BAD, x -> x.term(5, 0, 0, 0));
        refused("3, BAD: no FORM below", Scenes::rich, BAD, x -> x.term(-1, 0, 0, 0));
        refused("3, BAD: no FORM far above", Scenes::rich, BAD, x -> x.term(HUGE, 0, 0, 0));
        refused("3, BAD: no FORM far below", Scenes::rich, BAD, x -> x.term(DEEP, 0, 0, 0));
        refused("3, BAD: no FORM 10", Scenes::full, BAD, x -> x.term(10, 0, 0, 0));
        refused("3, BAD: i below 0", Scenes::rich, BAD, x -> x.term(4, -1, 0, 0));
        refused("3, BAD: i above 4", Scenes::rich, BAD, x -> x.term(4, 5, 0, 0));
        refused("3, BAD: j below 0", Scenes::rich, BAD, x -> x.term(4, 0, -1, 0));
        refused("3, BAD: j above 4", Scenes::rich, BAD, x -> x.term(4, 0, 5, 0));
        refused("3, BAD: i far above", Scenes::rich, BAD, x -> x.term(4, HUGE, 0, 0));
        refused("3, BAD: j far below", Scenes::rich, BAD, x -> x.term(4, 0, DEEP, 0));
        refused("3, BAD: v below -20", Scenes::rich, BAD, x -> x.term(4, 0, 0, -21));
        refused("3, BAD: v above 20", Scenes::rich, BAD, x -> x.term(4, 0, 0, 21));
        refused("3, BAD: v far above", Scenes::rich, BAD, x -> x.term(4, 0, 0, HUGE));
        refused("3, BAD: v far below", Scenes::rich, BAD, x -> x.term(4, 0, 0, DEEP));
        refused("3, BAD: v beyond at a PLACE that has a TERM", Scenes::rich, BAD, x -> x.term(0, 0, 0, 21));
        refused("3, STATE: a SUM", Scenes::rich, STATE, x -> x.term(1, 0, 0, 0));
        refused("3, STATE: a POWER", Scenes::rich, STATE, x -> x.term(2, 0, 0, 0));
        refused("3, STATE: a HIDDEN one", Scenes::rich, STATE, x -> x.term(3, 0, 0, 0));
        refused("3, FULL: it would have more than 12", Scenes::twelve, FULL, x -> x.term(5, 4, 4, 0));
        refused("3, BAD before STATE", Scenes::rich, BAD, x -> x.term(1, 5, 0, 0));
        refused("3, BAD (v) before STATE", Scenes::rich, BAD, x -> x.term(3, 0, 0, -21));
        refused("3, BAD before FULL", Scenes::twelve, BAD, x -> x.term(5, 4, 4, 21));
        refused("3, STATE before FULL", Scenes::twelve, STATE, x -> x.term(7, 4, 4, 0));
        refused("4, BAD: no FORM above", Scenes::rich, BAD, x -> x.take(5, 0, 0));
        refused("4, BAD: no FORM below", Scenes::rich, BAD, x -> x.take(-1, 0, 0));
        refused("4, BAD: there is none at the PLACE", Scenes::rich, BAD, x -> x.take(0, 2, 2));
        refused("4, BAD: a FORM without TERMS", Scenes::rich, BAD, x -> x.take(4, 0, 0));
        refused("4, BAD: i below 0", Scenes::rich, BAD, x -> x.take(0, -1, 0));
        refused("4, BAD: j above 8", Scenes::rich, BAD, x -> x.take(0, 0, 9));
        refused("4, BAD: a PLACE far off", Scenes::rich, BAD, x -> x.take(0, HUGE, DEEP));
        refused("4, STATE: a SUM", Scenes::rich, STATE, x -> x.take(1, 0, 0));
        refused("4, STATE: a POWER", Scenes::rich, STATE, x -> x.take(2, 0, 0));
        refused("4, STATE: a HIDDEN one", Scenes::rich, STATE, x -> x.take(3, 0, 0));
        refused("4, BAD (none at the PLACE) before STATE", Scenes::rich, BAD, x -> x.take(1, 8, 8));
        refused("4, BAD (no such PLACE) before STATE", Scenes::rich, BAD, x -> x.take(3, -1, 0));
    }

    private static void sum() {
        refused("5, BAD: no first, above", Scenes::rich, BAD, x -> x.sum(5, 0));
        refused("5, BAD: no first, below", Scenes::rich, BAD, x -> x.sum(-1, 0));
        refused("5, BAD: no second, above", Scenes::rich, BAD, x -> x.sum(0, 5));
        refused("5, BAD: no second, below", Scenes::rich, BAD, x -> x.sum(0, -1));
        refused("5, BAD: neither", Scenes::rich, BAD, x -> x.sum(HUGE, DEEP));
        refused("5, FULL: a PLACE beyond 8", Scenes::far, FULL, x -> x.sum(6, 5));
        refused("5, FULL: a NUMBER above 200", Scenes::far, FULL, x -> x.sum(4, 0));
        refused("5, FULL: a NUMBER far above 200", Scenes::far, FULL, x -> x.sum(4, 4));
        refused("5, FULL: more than 40 TERMS", Scenes::crowd, FULL, x -> x.sum(1, 2));
        refused("5, FULL: 10 FORMS", Scenes::full, FULL, x -> x.sum(0, 0));
        refused("5, FULL: 10 FORMS, of one without TERMS", Scenes::full, FULL, x -> x.sum(4, 4));
        refused("5, BAD (first) before FULL", Scenes::full, BAD, x -> x.sum(10, 0));
        refused("5, BAD (second) before FULL", Scenes::full, BAD, x -> x.sum(0, 10));
    }

    private static void powerAndMove() {
        refused("6, BAD: no FORM above", Scenes::rich, BAD, x -> x.power(5, 1));
        refused("6, BAD: no FORM below", Scenes::rich, BAD, x -> x.power(-1, 1));
        refused("6, BAD: k 0", Scenes::rich, BAD, x -> x.power(4, 0));
        refused("6, BAD: k below 0", Scenes::rich, BAD, x -> x.power(4, -1));
        refused("6, BAD: k above 4", Scenes::rich, BAD, x -> x.power(4, 5));
        refused("6, BAD: k far above", Scenes::rich, BAD, x -> x.power(4, HUGE));
        refused("6, BAD: k far below", Scenes::rich, BAD, x -> x.power(4, DEEP));
        refused("6, FULL: a PLACE beyond 8", Scenes::far, FULL, x -> x.power(5, 3));
        refused("6, FULL: a PLACE far beyond 8", Scenes::far, FULL, x -> x.power(6, 4));
        refused("6, FULL: a NUMBER above 200", Scenes::far, FULL, x -> x.power(1, 3));
        refused("6, FULL: more than 40 TERMS", Scenes::crowd, FULL, x -> x.power(0, 2));
        refused("6, FULL: 10 FORMS", Scenes::full, FULL, x -> x.power(0, 1));
        refused("6, BAD (FORM) before FULL", Scenes::full, BAD, x -> x.power(10, 1));
        refused("6, BAD (k) before FULL", Scenes::full, BAD, x -> x.power(0, 5));
        refused("7, BAD: no FORM above", Scenes::rich, BAD, x -> x.move(5, 0, 0));
        refused("7, BAD: no FORM below", Scenes::rich, BAD, x -> x.move(-1, 0, 0));
        refused("7, BAD: u below -10", Scenes::rich, BAD, x -> x.move(0, -11, 0));
        refused("7, BAD: u above 10", Scenes::rich, BAD, x -> x.move(0, 11, 0));
        refused("7, BAD: v below -10", Scenes::rich, BAD, x -> x.move(0, 0, -11));
        refused("7, BAD: v above 10", Scenes::rich, BAD, x -> x.move(0, 0, 11));
        refused("7, BAD: u far above", Scenes::rich, BAD, x -> x.move(4, HUGE, 0));
        refused("7, BAD: v far below", Scenes::rich, BAD, x -> x.move(4, 0, DEEP));
        refused("7, FULL: a NUMBER above 200", Scenes::sloped, FULL, x -> x.move(6, 1, 0));
        refused("7, FULL: 10 FORMS", Scenes::full, FULL, x -> x.move(0, 0, 0));
        refused("7, BAD (FORM) before FULL", Scenes::full, BAD, x -> x.move(10, 0, 0));
        refused("7, BAD (u) before FULL", Scenes::full, BAD, x -> x.move(0, 11, 0));
        refused("7, BAD (v) before FULL", Scenes::full, BAD, x -> x.move(0, 0, -11));
    }

    private static void hide() {
        for (int q : new int[] {DEEP, -7, -2, -1, 0, 1, 4, 6, 8, 9, 10, 11, 13, 49, HUGE}) {
            refused("8, BAD: q " + q, Scenes::rich, BAD, x -> x.hide(1, 1, 0, q));
        }
        refused("8, BAD: no SHEET -1", Scenes::rich, BAD, x -> x.hide(-1, 1, 0, 2));
        refused("8, BAD: no SHEET 4", Scenes::rich, BAD, x -> x.hide(4, 1, 0, 2));
        refused("8, BAD: no SHEET far above", Scenes::rich, BAD, x -> x.hide(HUGE, 1, 0, 2));
        refused("8, BAD: no sort -1", Scenes::rich, BAD, x -> x.hide(1, -1, 0, 2));
        refused("8, BAD: no sort 3", Scenes::rich, BAD, x -> x.hide(1, 3, 0, 2));
        refused("8, BAD: sort -1 of a missing SHEET", Scenes::rich, BAD, x -> x.hide(3, -1, 0, 2));
        refused("8, -13: bytes taken for ints", Scenes::rich, OTHER, x -> x.hide(0, 1, 0, 2));
        refused("8, -13: bytes taken for longs", Scenes::rich, OTHER, x -> x.hide(0, 2, 0, 2));
        refused("8, -13: ints taken for bytes", Scenes::rich, OTHER, x -> x.hide(1, 0, 0, 2));
        refused("8, -13: ints taken for longs", Scenes::rich, OTHER, x -> x.hide(1, 2, 0, 2));
        refused("8, -13: longs taken for bytes", Scenes::rich, OTHER, x -> x.hide(2, 0, 0, 2));
        refused("8, -13: longs taken for ints", Scenes::rich, OTHER, x -> x.hide(2, 1, 0, 2));
        for (int sort = 0; sort < 3; sort++) {
            int of = sort;
            refused("8, -11: missing, of sort " + sort, Scenes::rich, NOTHING, x -> x.hide(3, of, 0, 2));
        }
        refused("8, -12: s below 0", Scenes::rich, OUTSIDE, x -> x.hide(1, 1, -1, 2));
        refused("8, -12: s far below 0", Scenes::rich, OUTSIDE, x -> x.hide(1, 1, DEEP, 2));
        refused("8, -12: the ninth number is one beyond", Scenes::rich, OUTSIDE, x -> x.hide(1, 1, 12, 2));
        refused("8, -12: s is the size", Scenes::rich, OUTSIDE, x -> x.hide(1, 1, 20, 2));
        refused("8, -12: s far above, s + 9 wraps", Scenes::rich, OUTSIDE, x -> x.hide(1, 1, HUGE, 2));
        refused("8, -12: of 9 items from 1 on", Scenes::rich, OUTSIDE, x -> x.hide(2, 2, 1, 2));
        refused("8, FULL: 10 FORMS", Scenes::full, FULL, x -> x.hide(1, 1, 0, 2));
        refused("8, BAD (q) before -13", Scenes::rich, BAD, x -> x.hide(1, 0, 0, 4));
        refused("8, BAD (q) before -11", Scenes::rich, BAD, x -> x.hide(3, 1, 0, 4));
        refused("8, BAD (q) before -12", Scenes::rich, BAD, x -> x.hide(1, 1, -1, 4));
        refused("8, BAD (sort) before -12", Scenes::rich, BAD, x -> x.hide(1, 3, -1, 2));
        refused("8, -13 before -12", Scenes::rich, OTHER, x -> x.hide(1, 0, -1, 2));
        refused("8, -11 before -12", Scenes::rich, NOTHING, x -> x.hide(3, 0, -1, 2));
        refused("8, BAD before FULL", Scenes::full, BAD, x -> x.hide(1, 1, 0, 4));
        refused("8, -13 before FULL", Scenes::full, OTHER, x -> x.hide(1, 2, 0, 2));
        refused("8, -11 before FULL", Scenes::full, NOTHING, x -> x.hide(3, 2, 0, 2));
        refused("8, -12 before FULL", Scenes::full, OUTSIDE, x -> x.hide(1, 1, 12, 2));
    }

    private static void dropAndTold() {
        refused("9, STATE: there is none", CornerCurves::new, STATE, CornerCurves::drop);
        refused("9, STATE: there is none any more", Scenes::emptied, STATE, CornerCurves::drop);
        refused("10, BAD: no FORM above", Scenes::rich, BAD, x -> x.told(5, 0));
        refused("10, BAD: no FORM below", Scenes::rich, BAD, x -> x.told(-1, 0));
        refused("10, BAD: what below 0", Scenes::rich, BAD, x -> x.told(0, -1));
        refused("10, BAD: what above 9", Scenes::rich, BAD, x -> x.told(0, 10));
        refused("10, BAD: what far above", Scenes::rich, BAD, x -> x.told(0, HUGE));
        refused("11, -100000: no FORM above", Scenes::rich, NO_NUMBER, x -> x.number(5, 0, 0));
        refused("11, -100000: no FORM below", Scenes::rich, NO_NUMBER, x -> x.number(-1, 0, 0));
        refused("11, -100000: no TERM there", Scenes::rich, NO_NUMBER, x -> x.number(0, 2, 2));
        refused("11, -100000: no such PLACE below", Scenes::rich, NO_NUMBER, x -> x.number(0, 0, -1));
        refused("11, -100000: no such PLACE above", Scenes::rich, NO_NUMBER, x -> x.number(0, 9, 0));
        refused("11, -100000: a FORM without TERMS", Scenes::rich, NO_NUMBER, x -> x.number(4, 0, 0));
    }

    private static void worthToSame() {
        refused("12, NO: no FORM above", Scenes::rich, NO, x -> x.worth(5, 0, 0, 1, 0));
        refused("12, NO: no FORM below", Scenes::rich, NO, x -> x.worth(-1, 0, 0, 1, 0));
        refused("12, NO: a below -1000", Scenes::rich, NO, x -> x.worth(0, -1001, 0, 1, 0));
        refused("12, NO: a above 1000", Scenes::rich, NO, x -> x.worth(0, 1001, 0, 1, 0));
        refused("12, NO: b below -1000", Scenes::rich, NO, x -> x.worth(0, 0, -1001, 1, 0));
        refused("12, NO: b above 1000", Scenes::rich, NO, x -> x.worth(0, 0, 1001, 1, 0));
        refused("12, NO: q 0", Scenes::rich, NO, x -> x.worth(0, 0, 0, 0, 0));
        refused("12, NO: q below 0", Scenes::rich, NO, x -> x.worth(0, 1, 1, -1, 0));
        refused("12, NO: q above 100", Scenes::rich, NO, x -> x.worth(0, 0, 0, 101, 0));
        refused("12, NO: what below 0", Scenes::rich, NO, x -> x.worth(0, 0, 0, 1, -1));
        refused("12, NO: what above 1", Scenes::rich, NO, x -> x.worth(0, 0, 0, 1, 2));
        refused("12, NO: no TERMS", Scenes::rich, NO, x -> x.worth(4, 0, 0, 1, 0));
        refused("13, BAD: no FORM above", Scenes::rich, BAD, x -> x.leastAt(5, 0, 0, 1));
        refused("13, BAD: no FORM below", Scenes::rich, BAD, x -> x.leastAt(-1, 0, 0, 1));
        refused("13, BAD: a below -1000", Scenes::rich, BAD, x -> x.leastAt(0, -1001, 0, 1));
        refused("13, BAD: a above 1000", Scenes::rich, BAD, x -> x.leastAt(0, 1001, 0, 1));
        refused("13, BAD: b below -1000", Scenes::rich, BAD, x -> x.leastAt(0, 0, -1001, 1));
        refused("13, BAD: b above 1000", Scenes::rich, BAD, x -> x.leastAt(0, 0, 1001, 1));
        refused("13, BAD: q 0", Scenes::rich, BAD, x -> x.leastAt(0, 0, 0, 0));
        refused("13, BAD: q below 0", Scenes::rich, BAD, x -> x.leastAt(0, 0, 0, -1));
        refused("13, BAD: q above 100", Scenes::rich, BAD, x -> x.leastAt(0, 0, 0, 101));
        refused("13, BAD: no TERMS", Scenes::rich, BAD, x -> x.leastAt(4, 0, 0, 1));
        refused("14, BAD: no FORM above", Scenes::rich, BAD, x -> x.idle(5, 0, 0));
        refused("14, BAD: no FORM below", Scenes::rich, BAD, x -> x.idle(-1, 0, 0));
        refused("14, BAD: there is none", Scenes::rich, BAD, x -> x.idle(0, 2, 2));
        refused("14, BAD: there is none in a FORM without TERMS", Scenes::rich, BAD, x -> x.idle(4, 0, 0));
        refused("14, BAD: no such PLACE below", Scenes::rich, BAD, x -> x.idle(0, -1, 0));
        refused("14, BAD: no such PLACE above", Scenes::rich, BAD, x -> x.idle(0, 0, HUGE));
        refused("15, BAD: no first above", Scenes::rich, BAD, x -> x.same(5, 0));
        refused("15, BAD: no first below", Scenes::rich, BAD, x -> x.same(-1, 0));
        refused("15, BAD: no second above", Scenes::rich, BAD, x -> x.same(0, 5));
        refused("15, BAD: no second below", Scenes::rich, BAD, x -> x.same(0, -1));
        refused("15, BAD: one FORM that is none with itself", Scenes::rich, BAD, x -> x.same(5, 5));
    }

    private static void edgeToRoot() {
        refused("16, -100000: no FORM above", Scenes::rich, NO_NUMBER, x -> x.edge(5, 0, 0));
        refused("16, -100000: no FORM below", Scenes::rich, NO_NUMBER, x -> x.edge(-1, 0, 0));
        refused("16, -100000: no EDGE above", Scenes::rich, NO_NUMBER, x -> x.edge(0, 5, 0));
        refused("16, -100000: no EDGE below", Scenes::rich, NO_NUMBER, x -> x.edge(0, -1, 0));
        refused("16, -100000: no EDGE far above", Scenes::rich, NO_NUMBER, x -> x.edge(0, HUGE, 0));
        refused("16, -100000: what above 7", Scenes::rich, NO_NUMBER, x -> x.edge(0, 0, 8));
        refused("16, -100000: what below 0", Scenes::rich, NO_NUMBER, x -> x.edge(0, 0, -1));
        refused("16, -100000: no EDGES without TERMS", Scenes::rich, NO_NUMBER, x -> x.edge(4, 0, 0));
        refused("17, NO: no FORM above", Scenes::rich, NO, x -> x.end(5, 1, 0, 0));
        refused("17, NO: no FORM below", Scenes::rich, NO, x -> x.end(-1, 1, 0, 0));
        refused("17, NO: no EDGE above", Scenes::rich, NO, x -> x.end(0, 5, 0, 0));
        refused("17, NO: no EDGE below", Scenes::rich, NO, x -> x.end(0, -1, 0, 0));
        refused("17, NO: way below 0", Scenes::rich, NO, x -> x.end(0, 1, -1, 0));
        refused("17, NO: way above 1", Scenes::rich, NO, x -> x.end(0, 1, 2, 0));
        refused("17, NO: what below 0", Scenes::rich, NO, x -> x.end(0, 1, 0, -1));
        refused("17, NO: what above 3", Scenes::rich, NO, x -> x.end(0, 1, 0, 4));
        refused("17, NO: none, a RAY's first", Scenes::rich, NO, x -> x.end(0, 0, 0, 0));
        refused("17, NO: none, a RAY's last", Scenes::rich, NO, x -> x.end(0, 2, 1, 0));
        refused("18, NO: no FORM above", Scenes::rich, NO, x -> x.corner(5, 0, 0));
        refused("18, NO: no FORM below", Scenes::rich, NO, x -> x.corner(-1, 0, 0));
        refused("18, NO: no CORNER above", Scenes::rich, NO, x -> x.corner(0, 2, 4));
        refused("18, NO: no CORNER below", Scenes::rich, NO, x -> x.corner(0, -1, 4));
        refused("18, NO: what below 0", Scenes::rich, NO, x -> x.corner(0, 0, -1));
        refused("18, NO: what above 6", Scenes::rich, NO, x -> x.corner(0, 0, 7));
        refused("18, NO: no CORNERS without TERMS", Scenes::rich, NO, x -> x.corner(4, 0, 0));
        refused("19, BAD: no first above", Scenes::rich, BAD, x -> x.amount(5, 0));
        refused("19, BAD: no first below", Scenes::rich, BAD, x -> x.amount(-1, 0));
        refused("19, BAD: no second above", Scenes::rich, BAD, x -> x.amount(0, 5));
        refused("19, BAD: no second below", Scenes::rich, BAD, x -> x.amount(0, -1));
        refused("19, STATE: the first has no TERMS", Scenes::rich, STATE, x -> x.amount(4, 0));
        refused("19, STATE: the second has no TERMS", Scenes::rich, STATE, x -> x.amount(0, 4));
        refused("19, STATE: both have no TERMS", Scenes::rich, STATE, x -> x.amount(4, 4));
        refused("19, STATE: their SUM has a PLACE beyond 8", Scenes::far, STATE, x -> x.amount(6, 5));
        refused("19, BAD before STATE", Scenes::rich, BAD, x -> x.amount(4, 5));
        refused("19, BAD before STATE, the other way", Scenes::rich, BAD, x -> x.amount(-1, 4));
        refused("20, BAD: no first above", Scenes::rich, BAD, x -> x.meets(5, 0));
        refused("20, BAD: no first below", Scenes::rich, BAD, x -> x.meets(-1, 0));
        refused("20, BAD: no second above", Scenes::rich, BAD, x -> x.meets(0, 5));
        refused("20, BAD: no second below", Scenes::rich, BAD, x -> x.meets(0, -1));
        refused("20, STATE: they do not CROSS WELL", Scenes::rich, STATE, x -> x.meets(0, 1));
        refused("21, NO: no first", Scenes::rich, NO, x -> x.meet(5, 0, 0, 0));
        refused("21, NO: no second", Scenes::rich, NO, x -> x.meet(0, -1, 0, 0));
        refused("21, NO: they do not CROSS WELL", Scenes::rich, NO, x -> x.meet(0, 1, 0, 4));
        refused("21, NO: no MEET of FORMS without any", Scenes::rich, NO, x -> x.meet(0, 4, 0, 0));
        refused("22, NO: no FORM above", Scenes::rich, NO, x -> x.root(5, 0, 0));
        refused("22, NO: no FORM below", Scenes::rich, NO, x -> x.root(-1, 0, 0));
        refused("22, NO: it is not of one letter", Scenes::rich, NO, x -> x.root(0, 0, 0));
        refused("22, NO: no ROOT without TERMS", Scenes::rich, NO, x -> x.root(4, 0, 0));
    }

    private static void proofs() {
        refused("23, BAD: no FORM above", Scenes::rich, BAD, x -> x.write(5));
        refused("23, BAD: no FORM below", Scenes::rich, BAD, x -> x.write(-1));
        refused("23, BAD: no FORM 10", Scenes::full, BAD, x -> x.write(10));
        refused("24, NO: i below 0", Scenes::rich, NO, x -> x.row(-1));
        refused("24, NO: i is how many there are", Scenes::rich, NO, x -> x.row(28));
        refused("24, NO: i far above", Scenes::rich, NO, x -> x.row(HUGE));
        refused("24, NO: i far below", Scenes::rich, NO, x -> x.row(DEEP));
        refused("25, BAD: i below 0", Scenes::rich, BAD, x -> x.forge(-1, 7));
        refused("25, BAD: i is how many there are", Scenes::rich, BAD, x -> x.forge(28, 7));
        refused("25, BAD: i far above", Scenes::rich, BAD, x -> x.forge(HUGE, 7));
        refused("25, BAD: i far below", Scenes::rich, BAD, x -> x.forge(DEEP, 7));
        refused("25, BAD: there are no ROWS", CornerCurves::new, BAD, x -> x.forge(0, 7));
        refused("26, BAD: no FORM above", Scenes::rich, BAD, x -> x.check(5));
        refused("26, BAD: no FORM below", Scenes::rich, BAD, x -> x.check(-1));
        refused("28, NONE: i below 0", Scenes::rich, Scenes.NONE, x -> x.trace(-1));
        refused("28, NONE: i is how many ran", Scenes::rich, Scenes.NONE, x -> x.trace(13));
        refused("28, NONE: i 40", Scenes::rich, Scenes.NONE, x -> x.trace(40));
        refused("28, NONE: i far above", Scenes::rich, Scenes.NONE, x -> x.trace(HUGE));
        refused("29, BAD: what below 0", Scenes::rich, BAD, x -> x.count(-1));
        refused("29, BAD: what above 2", Scenes::rich, BAD, x -> x.count(3));
        refused("29, BAD: what far below", Scenes::rich, BAD, x -> x.count(DEEP));
    }

    private static void sheetAndCell() {
        refused("30, BAD: no SHEET -1", Scenes::rich, BAD, x -> x.sheet(-1, 1, 5));
        refused("30, BAD: no SHEET 4", Scenes::rich, BAD, x -> x.sheet(4, 1, 5));
        refused("30, BAD: no SHEET far above", Scenes::rich, BAD, x -> x.sheet(HUGE, 1, 5));
        refused("30, BAD: no SHEET 4 to be missing", Scenes::rich, BAD, x -> x.sheet(4, -1, 5));
        refused("30, BAD: no sort -2", Scenes::rich, BAD, x -> x.sheet(1, -2, 5));
        refused("30, BAD: no sort 3", Scenes::rich, BAD, x -> x.sheet(1, 3, 5));
        refused("30, BAD: n above 40", Scenes::rich, BAD, x -> x.sheet(1, 1, 41));
        refused("30, BAD: n far above 40", Scenes::rich, BAD, x -> x.sheet(1, 0, HUGE));
        refused("30, BAD: n above 40 of a missing one", Scenes::rich, BAD, x -> x.sheet(3, 2, 41));
        refused("30, -14: n below 0", Scenes::rich, BELOW, x -> x.sheet(1, 1, -1));
        refused("30, -14: n far below 0", Scenes::rich, BELOW, x -> x.sheet(1, 2, DEEP));
        refused("30, -14: n below 0 of a missing one", Scenes::rich, BELOW, x -> x.sheet(3, 0, -1));
        refused("30, BAD (SHEET) before -14", Scenes::rich, BAD, x -> x.sheet(4, 1, -1));
        refused("30, BAD (sort) before -14", Scenes::rich, BAD, x -> x.sheet(1, 3, -1));
        refused("31, BAD: no SHEET -1", Scenes::rich, BAD, x -> x.cell(-1, 0, 5));
        refused("31, BAD: no SHEET 4", Scenes::rich, BAD, x -> x.cell(4, 0, 5));
        refused("31, BAD: no SHEET far below", Scenes::rich, BAD, x -> x.cell(DEEP, 0, 5));
        refused("31, -11: missing", Scenes::rich, NOTHING, x -> x.cell(3, 0, 5));
        refused("31, -12: i below 0", Scenes::rich, OUTSIDE, x -> x.cell(1, -1, 5));
        refused("31, -12: i is the size", Scenes::rich, OUTSIDE, x -> x.cell(1, 20, 5));
        refused("31, -12: i far above", Scenes::rich, OUTSIDE, x -> x.cell(1, HUGE, 5));
        refused("31, -12: i far below", Scenes::rich, OUTSIDE, x -> x.cell(1, DEEP, 5));
        refused("31, BAD before -12", Scenes::rich, BAD, x -> x.cell(4, -1, 5));
        refused("31, -11 before -12", Scenes::rich, NOTHING, x -> x.cell(3, -1, 5));
    }

    private static void copyAndTaken() {
        refused("32, BAD: no SHEET -1", Scenes::alike, BAD, x -> x.copy(-1, 0, 3, 0, 1));
        refused("32, BAD: no SHEET 4", Scenes::alike, BAD, x -> x.copy(4, 0, 3, 0, 1));
        refused("32, BAD: no other SHEET -1", Scenes::alike, BAD, x -> x.copy(1, 0, -1, 0, 1));
        refused("32, BAD: no other SHEET 4", Scenes::alike, BAD, x -> x.copy(1, 0, 4, 0, 1));
        refused("32, -11: the one is missing", Scenes::rich, NOTHING, x -> x.copy(3, 0, 1, 0, 1));
        refused("32, -11: the other is missing", Scenes::rich, NOTHING, x -> x.copy(1, 0, 3, 0, 1));
        refused("32, -11: a missing one to itself", Scenes::rich, NOTHING, x -> x.copy(3, 0, 3, 0, 0));
        refused("32, -13: bytes to ints", Scenes::rich, OTHER, x -> x.copy(0, 0, 1, 0, 1));
        refused("32, -13: ints to longs", Scenes::rich, OTHER, x -> x.copy(1, 0, 2, 0, 1));
        refused("32, -13: longs to bytes, none of them", Scenes::rich, OTHER, x -> x.copy(2, 0, 0, 0, 0));
        refused("32, -12: n below 0", Scenes::alike, OUTSIDE, x -> x.copy(1, 5, 3, 5, -1));
        refused("32, -12: i below 0", Scenes::alike, OUTSIDE, x -> x.copy(1, -1, 3, 0, 1));
        refused("32, -12: j below 0", Scenes::alike, OUTSIDE, x -> x.copy(1, 0, 3, -1, 1));
        refused("32, -12: i below 0, no items", Scenes::alike, OUTSIDE, x -> x.copy(1, -1, 3, 0, 0));
        refused("32, -12: j below 0, no items", Scenes::alike, OUTSIDE, x -> x.copy(1, 0, 3, -1, 0));
        refused("32, -12: one beyond the end of the one", Scenes::alike, OUTSIDE, x -> x.copy(1, 10, 3, 0, 11));
        refused("32, -12: one beyond the other's end", Scenes::alike, OUTSIDE, x -> x.copy(1, 0, 3, 2, 10));
        refused("32, -12: i beyond the end, no items", Scenes::alike, OUTSIDE, x -> x.copy(1, 21, 3, 0, 0));
        refused("32, -12: j beyond the end, no items", Scenes::alike, OUTSIDE, x -> x.copy(1, 0, 3, 12, 0));
        refused("32, -12: i + n wraps", Scenes::alike, OUTSIDE, x -> x.copy(1, 1, 3, 0, HUGE));
        refused("32, -12: j + n wraps", Scenes::alike, OUTSIDE, x -> x.copy(1, 0, 3, HUGE, 2));
        refused("32, -12: i far above", Scenes::alike, OUTSIDE, x -> x.copy(1, HUGE, 3, 0, HUGE));
        refused("32, -12: n far below", Scenes::alike, OUTSIDE, x -> x.copy(1, 0, 3, 0, DEEP));
        refused("32, -12: one beyond the end, onto itself", Scenes::alike, OUTSIDE, x -> x.copy(1, 0, 1, 1, 20));
        refused("32, BAD before -11", Scenes::rich, BAD, x -> x.copy(3, 0, 4, 0, 1));
        refused("32, BAD before -12", Scenes::rich, BAD, x -> x.copy(-1, -1, 1, 0, 1));
        refused("32, -11 before -12", Scenes::rich, NOTHING, x -> x.copy(1, -1, 3, 0, -1));
        refused("32, -11 before -12, the other way", Scenes::rich, NOTHING, x -> x.copy(3, 0, 1, -1, 1));
        refused("32, -13 before -12", Scenes::rich, OTHER, x -> x.copy(0, -1, 1, 0, -1));
        refused("33, BAD: k below 0", Scenes::rich, BAD, x -> x.taken(0, -1));
        refused("33, BAD: k above 3", Scenes::rich, BAD, x -> x.taken(0, 4));
        refused("33, BAD: k far above", Scenes::rich, BAD, x -> x.taken(3, HUGE));
        refused("33, -11: no FORM above", Scenes::rich, NOTHING, x -> x.taken(5, 0));
        refused("33, -11: no FORM below", Scenes::rich, NOTHING, x -> x.taken(-1, 0));
        refused("33, -11: no FORM 10", Scenes::full, NOTHING, x -> x.taken(10, 0));
        refused("33, -13: a FORM taken for a SUM", Scenes::rich, OTHER, x -> x.taken(0, 1));
        refused("33, -13: a SUM taken for a POWER", Scenes::rich, OTHER, x -> x.taken(1, 2));
        refused("33, -13: a HIDDEN one taken for a SUM", Scenes::rich, OTHER, x -> x.taken(3, 1));
        refused("33, BAD before -11", Scenes::rich, BAD, x -> x.taken(5, 4));
        refused("33, -11 before -13", Scenes::rich, NOTHING, x -> x.taken(5, 3));
    }

    /** What only asks leaves all as it is, too. */
    private static void answersThatChangeNothing() {
        refused("10 changes nothing", Scenes::rich, 5, x -> x.told(0, 2));
        refused("11 changes nothing", Scenes::rich, -1, x -> x.number(0, 1, 1));
        refused("12 changes nothing", Scenes::rich, -2, x -> x.worth(0, -1, 0, 1, 0));
        refused("13 changes nothing", Scenes::rich, 3, x -> x.leastAt(0, 1, 0, 1));
        refused("14 changes nothing", Scenes::rich, 1, x -> x.idle(0, 1, 0));
        refused("15 changes nothing", Scenes::rich, 1, x -> x.same(1, 2));
        refused("16 changes nothing", Scenes::rich, 2, x -> x.edge(0, 0, 2));
        refused("17 changes nothing", Scenes::rich, 1, x -> x.end(0, 1, 1, 2));
        refused("18 changes nothing", Scenes::rich, 3, x -> x.corner(0, 1, 4));
        refused("19 changes nothing", Scenes::rich, 4, x -> x.amount(0, 0));
        refused("20 changes nothing", Scenes::rich, 0, x -> x.meets(0, 4));
        refused("24 changes nothing", Scenes::rich, 99, x -> x.row(2));
        refused("26 changes nothing", Scenes::rich, 2, x -> x.check(0));
        refused("28 changes nothing", Scenes::rich, 21, x -> x.trace(0));
        refused("29 changes nothing", Scenes::rich, 13, x -> x.count(2));
        refused("32 of no items changes nothing", Scenes::alike, 0, x -> x.copy(1, 20, 3, 11, 0));
        refused("32 of all items onto themselves changes nothing", Scenes::rich, 20, x -> x.copy(1, 0, 1, 0, 20));
        refused("33 changes nothing", Scenes::rich, 13, x -> x.taken(2, 0));
    }
}
