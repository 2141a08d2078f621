/** The edges that the document names for furlongs, people and the child: promises 1 and 9 to 15, 18. */
public final class EdgesOfWayTest {
    public static void main(String[] args) {
        noFurlongsNobody();
        furlongs24AtMost();
        slopes();
        stiles();
        people6AtMost();
        kinds();
        a();
        tiredFrom0To99();
        nobodyHasTheBagAtFirst();
        most();
        legsAreSoManyAtMost();
        asked();
        loads();
        loadsWithTheBag();
        tenthOfTired();
        loadByNumbersThatAreThere();
        Due.end();
    }

    /** Promise 1: nobody but THE CHILD, and what all is at first. */
    private static void noFurlongsNobody() {
        Run x = new Run();
        x.dueFrom0("status(", 0, 0, 0, 0, 3, 0, 3, 4, 20, 2, 1, 0, 0, 0, 0, 0, 0, 0, 1, 0, 0, -1);
        x.due("next()", 512).due("fault()", -1).due("trace(0)", -1).due("bag(NONE)", -1);
        x.due("furlongOf(0, 0)", -15).due("personOf(0, 0)", -5).due("whose(0)", -5).due("day()", 0).due("image()", 0);
        for (int rule = 0; rule < 4; rule++) {
            for (int what = 0; what < 4; what++) x.due("by(" + rule + ", " + what + ")", 0);
            x.due("by(" + rule + ", 10)", -5).due("turn(" + rule + ", 0)", 0).due("turn(" + rule + ", -1)", -1);
            x.due("pays(" + rule + ")", 0).due("bagged(" + rule + ")", -1).due("leastWorn(" + rule + ")", 1);
        }
        x.due("best(0)", 0).due("best(1)", 0).due("enough()", 0);
        for (int n = 1; n <= 4; n++) {
            x.due("ahead(" + n + ", NONE)", 0).due("ahead(" + n + ", 0)", -5);
            for (int what = 4; what <= 6; what++) x.due("ahead(" + n + ", " + what + ")", 0);
        }
    }

    /** FURLONGS have numbers, from 0 on, 24 at most. */
    private static void furlongs24AtMost() {
        Run x = new Run();
        for (int f = 0; f < 24; f++) x.due("furlong(0, 0)", f).due("status(1)", f + 1);
        x.due("furlong(0, 0)", -7).due("status(1)", 24).due("furlongOf(23, 0)", 0).due("furlongOf(24, 0)", -15);
    }

    /** SLOPE (-3 to 3). */
    private static void slopes() {
        Run x = new Run();
        for (int slope = -3; slope <= 3; slope++) {
            x.due("furlong(" + slope + ", 0)", slope + 3).due("furlongOf(" + (slope + 3) + ", 0)", slope);
        }
        x.due("furlong(-4, 0)", -6).due("furlong(4, 0)", -6).due("furlong(MIN, 0)", -6).due("furlong(MAX, 0)", -6).due("status(1)", 7);
    }

    /** A STILE at its end or not, the first and the last FURLONG alike. */
    private static void stiles() {
        Run x = new Run();
        for (int f = 0; f < 24; f++) x.after("furlong(0, " + (f % 23 == 0 ? 1 : 0) + ")");
        for (int f = 0; f < 24; f++) x.due("furlongOf(" + f + ", 1)", f % 23 == 0 ? 1 : 0);
    }

    /** PEOPLE have numbers, from 0 on, 6 at most. */
    private static void people6AtMost() {
        Run x = new Run();
        for (int p = 0; p < 6; p++) x.due("person(0, 0)", p).due("status(0)", p + 1);
        x.due("person(0, 0)", -7).due("status(0)", 6).due("personOf(5, 0)", 0).due("personOf(6, 0)", -5);
    }

    /** Each of a KIND, 0 to 6. */
    private static void kinds() {
        for (int kind = 0; kind <= 6; kind++) {
            new Run().due("person(" + kind + ", 0)", 0).due("personOf(0, 0)", kind);
        }
        new Run().due("person(-1, 0)", -1).due("person(7, 0)", -1).due("status(0)", 0);
    }

    /** a (0 to 9). */
    private static void a() {
        for (int a = 0; a <= 9; a++) new Run().due("person(6, " + a + ")", 0).due("personOf(0, 1)", a);
        new Run().due("person(6, -1)", -6).due("person(6, 10)", -6).due("status(0)", 0);
    }

    /** TIRED (0 to 99; 0 at first). */
    private static void tiredFrom0To99() {
        Run x = new Run().after("person(0, 9)", "person(3, 9)").due("personOf(1, 2)", 0);
        x.due("tire(1, 99)", 0).due("personOf(1, 2)", 99).due("tire(1, 100)", -6).due("tire(1, -1)", -6).due("personOf(1, 2)", 99);
        x.due("tire(1, 0)", 99).due("personOf(1, 2)", 0).due("tire(1, 0)", 0).due("personOf(0, 2)", 0);
        x.due("tire(2, 0)", -1).due("tire(-1, 0)", -1);
    }

    /** BAG: nobody has it at first, one at most then. */
    private static void nobodyHasTheBagAtFirst() {
        Run x = new Run().times(6, "person(0, 0)");
        for (int p = 0; p < 6; p++) x.due("personOf(" + p + ", 3)", 0);
        x.due("bag(NONE)", -1).due("bag(0)", -1).due("personOf(0, 3)", 1).due("bag(5)", 0).due("personOf(0, 3)", 0).due("personOf(5, 3)", 1);
        x.due("bag(6)", -11).due("bag(-2)", -11).due("personOf(5, 3)", 1).due("bag(NONE)", 5).due("personOf(5, 3)", 0).due("bag(NONE)", -1);
    }

    /** MOST (1 to 9; 3 at first; LEGS are MOST at first). */
    private static void most() {
        Run x = new Run().due("status(6)", 3).due("status(4)", 3);
        x.due("ask(0, 9)", 3).due("ask(0, 10)", -6).due("status(6)", 9).due("ask(0, 1)", 9).due("ask(0, 0)", -6).due("status(6)", 1);
    }

    /** LEGS are so many at most then: those there are, and those above MOST by a BISCUIT. */
    private static void legsAreSoManyAtMost() {
        Run x = new Run().due("ask(0, 4)", 3).due("status(4)", 3).due("ask(0, 3)", 4).due("status(4)", 3);
        x.due("ask(0, 2)", 3).due("status(4)", 2).due("ask(0, 9)", 2).due("status(4)", 2);
        Run y = new Run().furlongs(2, 0, false).after("does(7)").due("status(4)", 4);
        y.due("ask(0, 4)", 3).due("status(4)", 4).due("ask(0, 3)", 4).due("status(4)", 3);
    }

    /** NAP (1 to 9; 4), WORN (1 to 99; 20), BISCUITS (0 to 9; 2), RACES (0 to 9; 1). */
    private static void asked() {
        Run x = new Run().dueFrom0("status(", 0, 0, 0, 0, 3, 0, 3, 4, 20, 2, 1);
        x.due("ask(1, 1)", 4).due("ask(1, 0)", -6).due("ask(1, 9)", 1).due("ask(1, 10)", -6).due("status(7)", 9);
        x.due("ask(2, 1)", 20).due("ask(2, 0)", -6).due("ask(2, 99)", 1).due("ask(2, 100)", -6).due("status(8)", 99);
        x.due("ask(3, 0)", 2).due("ask(3, -1)", -6).due("ask(3, 9)", 0).due("ask(3, 10)", -6).due("status(9)", 9);
        x.due("ask(4, 0)", 1).due("ask(4, -1)", -6).due("ask(4, 9)", 0).due("ask(4, 10)", -6).due("status(10)", 9);
        x.due("ask(-1, 1)", -6).due("ask(5, 1)", -6).due("status(16)", 10);
    }

    private static Run everySlope(int kind) {
        Run x = new Run().after("person(" + kind + ", 5)");
        for (int slope = -3; slope <= 3; slope++) x.after("furlong(" + slope + ", 0)");
        return x;
    }

    /** LOAD by KIND and SLOPE, 1 at least. */
    private static void loads() {
        long[][] want = {
            {1, 2, 3, 4, 5, 6, 7},
            {1, 1, 2, 3, 4, 5, 6},
            {2, 3, 4, 5, 6, 7, 8},
            {1, 1, 1, 2, 3, 4, 5},
            {3, 4, 5, 6, 7, 8, 9},
            {1, 2, 3, 4, 5, 6, 7},
            {3, 4, 5, 6, 7, 8, 9},
        };
        for (int kind = 0; kind <= 6; kind++) everySlope(kind).dueFrom0("load(0, ", want[kind]);
    }

    /** LOAD is 1 at least with the 2 more of the BAG. */
    private static void loadsWithTheBag() {
        long[][] want = {
            {3, 4, 5, 6, 7, 8, 9},
            {2, 3, 4, 5, 6, 7, 8},
            {4, 5, 6, 7, 8, 9, 10},
            {1, 2, 3, 4, 5, 6, 7},
            {5, 6, 7, 8, 9, 10, 11},
            {3, 4, 5, 6, 7, 8, 9},
            {5, 6, 7, 8, 9, 10, 11},
        };
        for (int kind = 0; kind <= 6; kind++) everySlope(kind).after("bag(0)").dueFrom0("load(0, ", want[kind]);
        // Another one's BAG is no load.
        everySlope(0).after("person(0, 0)", "bag(1)").dueFrom0("load(0, ", 1, 2, 3, 4, 5, 6, 7);
    }

    /** A tenth of TIRED more (cut), for GRAN alone. */
    private static void tenthOfTired() {
        int[] tired = {0, 1, 9, 10, 11, 19, 20, 89, 90, 99};
        int[] more = {0, 0, 0, 1, 1, 1, 2, 8, 9, 9};
        Run x = new Run().furlongs(1, -3, false).furlongs(1, 3, false).after("person(6, 0)", "person(4, 0)", "person(0, 0)");
        for (int i = 0; i < tired.length; i++) {
            for (int p = 0; p < 3; p++) x.after("tire(" + p + ", " + tired[i] + ")");
            x.due("load(0, 0)", 3 + more[i]).due("load(0, 1)", 9 + more[i]);
            x.due("load(1, 0)", 3).due("load(1, 1)", 9).due("load(2, 0)", 1).due("load(2, 1)", 7);
        }
    }

    /** The last PERSON and FURLONG that are there; WORN and HERE are nothing to it. */
    private static void loadByNumbersThatAreThere() {
        Run x = new Run().furlongs(24, 0, true).times(6, "person(0, 0)").after("ask(2, 1)", "does(6)");
        x.due("load(5, 23)", 4).due("load(0, 0)", 4).due("load(5, 24)", -5).due("load(6, 23)", -1).due("load(6, 24)", -1);
    }
}
