/** Each refusal of each call, the first in the document's order where several fit, its count, and nothing else changed. */
public final class RefusalsTest {
    private static final String[] NEW = Refusal.NEW;
    private static final String[] STANDS = Refusal.STANDS;
    private static final String[] FULL = Refusal.FULL;

    public static void main(String[] args) {
        row();
        set();
        copyNobodyOther();
        copyNothingBelow();
        copyBeyond();
        show();
        says();
        furlong();
        person();
        furlongOf();
        personOf();
        ask();
        tire();
        bag();
        way();
        load();
        may();
        ahead();
        by();
        best();
        whose();
        turn();
        pays();
        bagged();
        judge();
        behind();
        done();
        fits();
        leastWorn();
        does();
        summer();
        restore();
        Due.end();
    }

    /** Promise 2. */
    private static void row() {
        Refusal.due(STANDS, -1, "row(-1, 0, 1)", "row(8, 0, 1)", "row(MIN, 0, 1)", "row(MAX, 0, 1)");
        Refusal.due(STANDS, -1, "row(8, 0, -1)", "row(8, 4, 1)", "row(8, 0, 161)", "row(-1, -1, -1)");
        Refusal.due(STANDS, -4, "row(0, 0, -1)", "row(3, 3, -1)", "row(4, 0, MIN)");
        Refusal.due(STANDS, -4, "row(0, 4, -1)", "row(0, -1, -1)");
        Refusal.due(STANDS, -6, "row(0, -1, 1)", "row(0, 4, 1)", "row(3, 4, 0)", "row(4, MIN, 1)", "row(5, MAX, 1)");
        Refusal.due(STANDS, -6, "row(0, 4, 161)", "row(3, -1, MAX)");
        Refusal.due(STANDS, -7, "row(0, 0, 161)", "row(3, 3, 161)", "row(4, 1, MAX)");
        Refusal.due(NEW, -7, "row(0, 0, 161)");
    }

    /** Promise 3. */
    private static void set() {
        Refusal.due(STANDS, -1, "set(-1, 0, 1)", "set(8, 0, 1)", "set(MIN, 0, 1)", "set(MAX, 0, 1)", "set(8, -1, 1)");
        Refusal.due(STANDS, -2, "set(3, 0, 1)", "set(6, 0, 1)", "set(3, -1, 1)", "set(3, 160, 1)");
        Refusal.due(STANDS, -3, "set(4, 0, 1)", "set(4, -1, 1)");
        Refusal.due(STANDS, -5, "set(0, -1, 1)", "set(0, 3, 1)", "set(7, 2, 1)", "set(5, 61, 1)", "set(2, 0, 1)");
        Refusal.due(STANDS, -5, "set(0, MIN, 1)", "set(0, MAX, 1)");
        Refusal.due(NEW, -3, "set(0, 0, 1)", "set(7, 0, 1)");
        Refusal.due(FULL, -5, "set(1, 160, 1)");
    }

    /** Promise 4. */
    private static void copyNobodyOther() {
        Refusal.due(STANDS, -1, "copy(-1, 0, 0, 0, 1)", "copy(8, 0, 0, 0, 1)", "copy(0, -1, 0, 0, 1)", "copy(0, 8, 0, 0, 1)");
        Refusal.due(STANDS, -1, "copy(MIN, MAX, 0, 0, 1)", "copy(MAX, MIN, 0, 0, 1)");
        Refusal.due(STANDS, -1, "copy(8, 3, 0, 0, 1)", "copy(3, 8, 0, 0, 1)", "copy(8, 4, 0, 0, 1)", "copy(4, 8, 0, 0, 1)");
        Refusal.due(STANDS, -1, "copy(0, 8, 0, 0, -1)", "copy(8, 0, 9, 9, 9)");
        Refusal.due(STANDS, -2, "copy(3, 0, 0, 0, 1)", "copy(0, 3, 0, 0, 1)", "copy(3, 6, 0, 0, 1)", "copy(3, 3, 0, 0, 1)");
        Refusal.due(STANDS, -2, "copy(0, 1, 0, 0, 1)", "copy(1, 0, 0, 0, 1)", "copy(1, 7, 0, 0, 1)", "copy(7, 2, 0, 0, 0)");
        Refusal.due(STANDS, -2, "copy(3, 4, 0, 0, 1)", "copy(4, 3, 0, 0, 1)", "copy(3, 0, 0, 0, -1)", "copy(0, 1, 0, 0, -1)");
        Refusal.due(STANDS, -2, "copy(0, 3, -1, 0, 1)", "copy(0, 1, 9, 0, 1)");
    }

    private static void copyNothingBelow() {
        Refusal.due(STANDS, -3, "copy(4, 0, 0, 0, 1)", "copy(0, 4, 0, 0, 1)", "copy(4, 4, 0, 0, 1)", "copy(4, 4, 0, 0, 0)");
        Refusal.due(STANDS, -3, "copy(4, 0, 0, 0, -1)", "copy(0, 4, 0, 0, -1)", "copy(0, 4, -1, 0, 1)", "copy(4, 0, 0, 9, 1)");
        Refusal.due(STANDS, -4, "copy(0, 5, 0, 0, -1)", "copy(0, 0, 0, 0, MIN)", "copy(1, 2, 0, 0, -1)");
        Refusal.due(STANDS, -4, "copy(0, 5, -1, 0, -1)", "copy(0, 5, 0, -1, -1)", "copy(0, 0, 4, 4, -1)");
    }

    /** Elements i to i + n of 5. */
    private static void copyBeyond() {
        Refusal.due(STANDS, -5, "copy(1, 1, -1, 0, 1)", "copy(1, 1, 0, -1, 1)", "copy(1, 1, -1, 0, 0)", "copy(1, 1, 0, -1, 0)");
        Refusal.due(STANDS, -5, "copy(1, 1, 5, 0, 1)", "copy(1, 1, 0, 5, 1)", "copy(1, 1, 1, 0, 5)", "copy(1, 1, 0, 1, 5)");
        Refusal.due(STANDS, -5, "copy(1, 1, 0, 0, 6)", "copy(1, 1, 6, 0, 0)", "copy(1, 1, 0, 6, 0)");
        Refusal.due(STANDS, -5, "copy(1, 2, 0, 0, 1)", "copy(2, 1, 0, 0, 1)", "copy(0, 5, 0, 59, 3)", "copy(5, 0, 59, 0, 3)");
        // An end above the greatest int isn't there either.
        Refusal.due(STANDS, -5, "copy(1, 1, MAX, 0, 1)", "copy(1, 1, 0, MAX, 1)", "copy(1, 1, MAX, 0, MAX)");
        Refusal.due(STANDS, -5, "copy(1, 1, 1, 0, MAX)", "copy(1, 1, 0, 1, MAX)", "copy(1, 1, MIN, 0, 1)", "copy(1, 1, 0, MIN, 0)");
    }

    /** Promise 6. */
    private static void show() {
        Refusal.due(STANDS, -1, "show(-1, 0)", "show(8, 0)", "show(8, NONE)", "show(MIN, 0)", "show(MAX, 0)", "show(8, 9)");
        Refusal.due(STANDS, -1, "show(0, 4)", "show(3, 4)", "show(4, 4)", "show(0, -2)", "show(3, MIN)", "show(4, MAX)");
        Refusal.due(NEW, -1, "show(0, 0)");
        Refusal.due(FULL, -1, "show(0, 6)");
    }

    /** Promise 8. */
    private static void says() {
        Refusal.due(STANDS, -1, "says(-1, 0)", "says(8, 0)", "says(MIN, 0)", "says(MAX, 0)");
        Refusal.due(STANDS, -1, "says(3, -1)", "says(3, 7)", "says(3, MIN)", "says(3, MAX)");
        Refusal.due(STANDS, -1, "says(8, 7)", "says(0, 7)", "says(4, 7)", "says(4, -1)");
        Refusal.due(STANDS, -2, "says(0, 0)", "says(2, 0)", "says(5, 3)", "says(7, 6)");
        Refusal.due(STANDS, -2, "says(3, 1)", "says(3, 2)", "says(3, 3)", "says(3, 5)");
        Refusal.due(STANDS, -2, "says(6, 2)", "says(6, 4)", "says(6, 5)", "says(6, 6)");
        Refusal.due(STANDS, -3, "says(4, 0)", "says(4, 1)", "says(4, 6)");
        Refusal.due(NEW, -3, "says(0, 0)", "says(7, 6)");
    }

    /** Promise 9. */
    private static void furlong() {
        Refusal.due(STANDS, -6, "furlong(-4, 0)", "furlong(4, 1)", "furlong(MIN, 0)", "furlong(MAX, 1)");
        Refusal.due(FULL, -6, "furlong(-4, 0)", "furlong(4, 1)");
        Refusal.due(FULL, -7, "furlong(0, 0)", "furlong(-3, 1)", "furlong(3, 0)");
    }

    /** Promise 10. */
    private static void person() {
        Refusal.due(STANDS, -1, "person(-1, 0)", "person(7, 0)", "person(MIN, 0)", "person(MAX, 0)", "person(7, 10)", "person(-1, -1)");
        Refusal.due(STANDS, -6, "person(0, -1)", "person(6, 10)", "person(0, MIN)", "person(0, MAX)");
        Refusal.due(FULL, -1, "person(7, 0)", "person(7, 10)");
        Refusal.due(FULL, -6, "person(0, 10)", "person(6, -1)");
        Refusal.due(FULL, -7, "person(0, 0)", "person(6, 9)");
    }

    /** Promise 11: counted as -5. */
    private static void furlongOf() {
        Refusal.due(STANDS, -15, "furlongOf(-1, 0)", "furlongOf(5, 0)", "furlongOf(5, 1)", "furlongOf(MIN, 0)", "furlongOf(MAX, 0)");
        Refusal.due(STANDS, -15, "furlongOf(0, -1)", "furlongOf(0, 2)", "furlongOf(0, MIN)", "furlongOf(0, MAX)", "furlongOf(5, 2)");
        Refusal.due(NEW, -15, "furlongOf(0, 0)", "furlongOf(0, 1)");
        Refusal.due(FULL, -15, "furlongOf(24, 0)");
    }

    /** Promise 12. */
    private static void personOf() {
        Refusal.due(STANDS, -5, "personOf(-1, 0)", "personOf(4, 0)", "personOf(MIN, 0)", "personOf(MAX, 0)");
        Refusal.due(STANDS, -5, "personOf(0, -1)", "personOf(0, 4)", "personOf(0, MIN)", "personOf(0, MAX)", "personOf(4, 4)");
        Refusal.due(NEW, -5, "personOf(0, 0)", "personOf(0, 3)", "personOf(-1, 3)");
        Refusal.due(FULL, -5, "personOf(6, 0)");
    }

    /** Promise 13. */
    private static void ask() {
        Refusal.due(STANDS, -6, "ask(0, 0)", "ask(0, 10)", "ask(1, 0)", "ask(1, 10)", "ask(2, 0)", "ask(2, 100)");
        Refusal.due(STANDS, -6, "ask(3, -1)", "ask(3, 10)", "ask(4, -1)", "ask(4, 10)", "ask(-1, 1)", "ask(5, 1)");
        Refusal.due(STANDS, -6, "ask(0, MIN)", "ask(2, MAX)", "ask(MIN, 1)", "ask(MAX, 1)", "ask(5, 100)");
    }

    /** Promise 14. */
    private static void tire() {
        Refusal.due(STANDS, -1, "tire(-1, 0)", "tire(4, 0)", "tire(MIN, 0)", "tire(MAX, 0)", "tire(4, 100)", "tire(-1, -1)");
        Refusal.due(STANDS, -6, "tire(0, -1)", "tire(3, 100)", "tire(0, MIN)", "tire(0, MAX)");
        Refusal.due(NEW, -1, "tire(0, 0)");
        Refusal.due(FULL, -1, "tire(6, 0)");
    }

    /** Promise 15: counted as -1. */
    private static void bag() {
        Refusal.due(STANDS, -11, "bag(-2)", "bag(4)", "bag(MIN)", "bag(MAX)");
        Refusal.due(NEW, -11, "bag(0)", "bag(-2)");
        Refusal.due(FULL, -11, "bag(6)");
    }

    /** Promise 16. */
    private static void way() {
        Refusal.due(STANDS, -1, "way(-1)", "way(8)", "way(MIN)", "way(MAX)");
        Refusal.due(STANDS, -2, "way(3)", "way(6)");
        Refusal.due(STANDS, -3, "way(4)");
        Refusal.due(STANDS, -6, "way(2)", "way(0)", "way(7)");
        Refusal.due(NEW, -3, "way(0)");
    }

    /** Promise 18. */
    private static void load() {
        Refusal.due(STANDS, -1, "load(-1, 0)", "load(4, 0)", "load(MIN, 0)", "load(MAX, 0)", "load(4, 5)", "load(-1, -1)");
        Refusal.due(STANDS, -5, "load(0, -1)", "load(3, 5)", "load(0, MIN)", "load(0, MAX)");
        Refusal.due(NEW, -1, "load(0, 0)");
        Refusal.due(new String[] {"person(0, 0)"}, -5, "load(0, 0)");
        Refusal.due(new String[] {"furlong(0, 0)"}, -1, "load(0, 0)");
        Refusal.due(FULL, -1, "load(6, 0)");
        Refusal.due(FULL, -5, "load(5, 24)");
    }

    /** Promise 19. */
    private static void may() {
        Refusal.due(STANDS, -6, "may(-1)", "may(10)", "may(MIN)", "may(MAX)");
        Refusal.due(NEW, -6, "may(-1)", "may(10)");
    }

    /** Promise 21. */
    private static void ahead() {
        Refusal.due(STANDS, -5, "ahead(1, -2)", "ahead(4, 7)", "ahead(1, MIN)", "ahead(1, MAX)");
        Refusal.due(STANDS, -5, "ahead(0, -2)", "ahead(5, 7)", "ahead(MIN, MAX)");
        Refusal.due(STANDS, -5, "ahead(1, 1)", "ahead(1, 3)", "ahead(2, 2)", "ahead(3, 3)");
        Refusal.due(STANDS, -6, "ahead(0, NONE)", "ahead(5, NONE)", "ahead(0, 0)", "ahead(5, 3)", "ahead(0, 4)", "ahead(5, 6)");
        Refusal.due(STANDS, -6, "ahead(-1, 5)", "ahead(MIN, 0)", "ahead(MAX, 6)");
        Refusal.due(NEW, -5, "ahead(1, 0)", "ahead(4, 0)", "ahead(4, 3)");
    }

    /** Promise 22. */
    private static void by() {
        Refusal.due(STANDS, -5, "by(0, -1)", "by(0, 4)", "by(0, 9)", "by(0, 14)", "by(0, 15)", "by(0, MIN)", "by(0, MAX)");
        Refusal.due(STANDS, -5, "by(4, 4)", "by(-1, 14)", "by(MIN, -1)");
        Refusal.due(STANDS, -6, "by(-1, 0)", "by(4, 0)", "by(4, 3)", "by(-1, 10)", "by(4, 13)", "by(MIN, 1)", "by(MAX, 2)");
        Refusal.due(NEW, -5, "by(0, 10)", "by(4, 10)");
        Refusal.due(FULL, -5, "by(3, 16)");
    }

    /** Promise 23. */
    private static void best() {
        Refusal.due(STANDS, -5, "best(-1)", "best(2)", "best(MIN)", "best(MAX)");
    }

    /** Promise 24. */
    private static void whose() {
        Refusal.due(STANDS, -5, "whose(-1)", "whose(5)", "whose(MIN)", "whose(MAX)");
        Refusal.due(NEW, -5, "whose(0)");
        Refusal.due(new String[] {"person(0, 0)"}, -5, "whose(0)");
        Refusal.due(new String[] {"furlong(0, 0)"}, -5, "whose(0)", "whose(1)");
        Refusal.due(FULL, -5, "whose(24)");
    }

    /** Promise 25: counted as -6. */
    private static void turn() {
        Refusal.due(STANDS, -16, "turn(-1, 100)", "turn(4, 100)", "turn(MIN, 0)", "turn(MAX, MIN)");
        Refusal.due(NEW, -16, "turn(4, 0)");
    }

    /** Promise 26. */
    private static void pays() {
        Refusal.due(STANDS, -6, "pays(-1)", "pays(4)", "pays(MIN)", "pays(MAX)");
        // Also where no REST MAY be.
        Refusal.due(new String[] {"furlong(0, 0)", "does(6)"}, -6, "pays(-1)", "pays(4)");
    }

    /** Promise 27: counted as -6. */
    private static void bagged() {
        Refusal.due(STANDS, -16, "bagged(-1)", "bagged(4)", "bagged(MIN)", "bagged(MAX)");
    }

    /** Promise 28: counted as -1 to -6. */
    private static void judge() {
        Refusal.due(STANDS, -11, "judge(-1, 1)", "judge(8, 1)", "judge(MIN, 1)", "judge(MAX, 1)", "judge(8, -1)", "judge(8, 61)");
        Refusal.due(STANDS, -12, "judge(3, 0)", "judge(6, 1)", "judge(3, -1)", "judge(3, 61)");
        Refusal.due(STANDS, -13, "judge(4, 0)", "judge(4, -1)", "judge(4, 61)");
        Refusal.due(STANDS, -14, "judge(0, -1)", "judge(2, -1)", "judge(0, MIN)");
        Refusal.due(STANDS, -15, "judge(0, 4)", "judge(2, 1)", "judge(0, 61)", "judge(5, 62)", "judge(5, MAX)");
        Refusal.due(STANDS, -16, "judge(5, 61)");
        Refusal.due(FULL, -16, "judge(1, 61)", "judge(1, 160)");
        Refusal.due(FULL, -15, "judge(1, 161)");
    }

    /** Promise 29. */
    private static void behind() {
        Refusal.due(STANDS, -1, "behind(-1, 1, 0)", "behind(8, 1, 0)", "behind(8, -1, 4)", "behind(MAX, 61, 4)");
        Refusal.due(STANDS, -2, "behind(3, 0, 0)", "behind(6, -1, 0)", "behind(3, 61, 4)");
        Refusal.due(STANDS, -3, "behind(4, 0, 0)", "behind(4, -1, 4)", "behind(4, 61, 0)");
        Refusal.due(STANDS, -4, "behind(0, -1, 0)", "behind(0, -1, 4)", "behind(2, MIN, 0)");
        Refusal.due(STANDS, -5, "behind(0, 4, 0)", "behind(2, 1, 0)", "behind(5, 62, 0)", "behind(0, MAX, 3)", "behind(0, 61, 0)");
        Refusal.due(STANDS, -5, "behind(0, 1, -1)", "behind(0, 1, 4)", "behind(0, 1, MIN)", "behind(0, 1, MAX)", "behind(2, 0, 4)");
        Refusal.due(STANDS, -5, "behind(0, 2, 4)", "behind(5, 61, 4)", "behind(5, 61, -1)");
        Refusal.due(STANDS, -6, "behind(5, 61, 0)", "behind(0, 2, 0)", "behind(0, 3, 3)");
    }

    /** Promise 30. */
    private static void done() {
        Refusal.due(STANDS, -1, "done(-1, 1)", "done(8, 1)", "done(MIN, 1)", "done(MAX, -1)");
        Refusal.due(STANDS, -2, "done(3, 0)", "done(6, -1)");
        Refusal.due(STANDS, -3, "done(4, 0)", "done(4, -1)");
        Refusal.due(STANDS, -4, "done(0, -1)", "done(0, MIN)");
        Refusal.due(STANDS, -5, "done(0, 4)", "done(2, 1)", "done(5, 62)", "done(0, 61)");
        Refusal.due(STANDS, -6, "done(5, 61)", "done(0, 2)", "done(0, 3)");
    }

    /** Promise 31: four people. */
    private static void fits() {
        Refusal.due(STANDS, -1, "fits(-1)", "fits(8)", "fits(MIN)", "fits(MAX)");
        Refusal.due(STANDS, -2, "fits(3)", "fits(6)");
        Refusal.due(STANDS, -3, "fits(4)");
        Refusal.due(STANDS, -5, "fits(0)", "fits(2)", "fits(7)");
        Refusal.due(new String[] {"person(0, 0)", "row(0, 0, 0)"}, -5, "fits(0)");
        Refusal.due(NEW, -3, "fits(0)");
    }

    /** Promise 33: counted as -6. */
    private static void leastWorn() {
        Refusal.due(STANDS, -16, "leastWorn(-1)", "leastWorn(4)", "leastWorn(MIN)", "leastWorn(MAX)");
    }

    /** Promise 34: up 2 GRAN (2) may not, UNCLE (3) not while she is awake; 4 and 5 aren't there. */
    private static void does() {
        Refusal.due(STANDS, -6, "does(2)", "does(3)", "does(4)", "does(5)", "does(-1)", "does(10)", "does(MIN)", "does(MAX)");
        Refusal.due(NEW, -6, "does(0)", "does(6)", "does(7)", "does(8)", "does(10)");
    }

    /** Promise 35. */
    private static void summer() {
        Refusal.due(STANDS, -6, "summer(0)", "summer(61)", "summer(-1)", "summer(MIN)", "summer(MAX)");
    }

    /** Promise 41. */
    private static void restore() {
        Refusal.due(NEW, -6, "restore()");
        Refusal.due(new String[] {"furlong(1, 1)", "person(0, 0)", "show(0, 0)", "seed(9)", "does(0)"}, -6, "restore()");
    }
}
