/** The edges that the document names for moves, the trace, the image and what is counted: promises 38 to 42. */
public final class EdgesOfMovesTest {
    public static void main(String[] args) {
        noSuchPersonOrMove();
        numbersAndAsAtTheirEnds();
        wrapping();
        traceOfTheLatest();
        traceOfAtMost10();
        noTrace();
        noImage();
        imageOfNobody();
        imageOfAllFull();
        imageOfAll();
        imageIsTakenAnew();
        shelvesWithThoseOfTheseNumbers();
        whatTheImageHasNot();
        statusOfAnotherWhat();
        statusCountsEachRefusal();
        whatIsNotCounted();
        Due.end();
    }

    /** 0, and no TRACE then: no such PERSON, move; nothing is refused. */
    private static void noSuchPersonOrMove() {
        String[] none = {"act(2, 0, 5)", "act(-1, 0, 5)", "act(MIN, 0, 5)", "act(MAX, 0, 5)", "act(0, -1, 5)", "act(0, 3, 5)", "act(1, MIN, 5)", "act(1, MAX, 5)", "act(2, 3, 5)"};
        for (String call : none) {
            Run x = new Run().after("person(0, 1)", "person(3, 2)").due("act(1, 2, 7)", 22 ^ 8).due("status(19)", 7);
            x.due(call, 0).due("status(19)", 0).due("trace(0)", -1).due("trace(6)", -1);
            for (int w = 11; w <= 17; w++) x.due("status(" + w + ")", 0);
        }
        new Run().due("act(0, 0, 5)", 0).due("status(19)", 0).due("trace(0)", -1);
    }

    /** m from 0 to 5, k from 0 to 9. */
    private static void numbersAndAsAtTheirEnds() {
        Run x = new Run().after("person(1, 9)", "person(1, 0)", "person(0, 0)", "person(0, 0)", "person(4, 0)", "person(6, 9)");
        x.due("act(0, 0, 100)", 109).due("act(1, 0, 100)", 101).due("act(2, 0, 100)", 102);
        x.due("act(3, 0, 100)", 103).due("act(4, 0, 100)", 100).due("act(5, 0, 100)", 200);
        x.due("act(5, 1, 9)", 0).due("act(5, 1, 10)", 4).due("act(5, 1, 0)", -36).due("act(2, 2, 0)", 4 ^ 2).due("act(0, 2, 0)", 18 ^ 0);
    }

    /** MOVES with x, wrapping. */
    private static void wrapping() {
        Run x = new Run().after("person(0, 9)", "person(1, 9)", "person(2, 9)", "person(3, 9)", "person(4, 0)", "person(6, 9)");
        x.due("act(0, 0, MAX)", 2147483647L).due("act(1, 0, MAX)", -2147483639L).due("act(0, 1, MAX)", -2).due("act(0, 1, MIN)", 0);
        x.due("act(0, 2, MIN)", 2147483639L).due("act(2, 1, MAX)", 6).due("act(3, 1, MAX)", 24).due("act(4, 2, MIN)", -2147483648L);
        x.due("act(5, 0, MAX)", -2).due("act(5, 1, MIN)", -36).due("act(4, 0, MIN)", -2147483648L).due("act(5, 0, MIN)", 0);
        // UNCLE (m 1): (MAX + 1) * 2 * 3 is 0, and lifts MAX - 0 to MIN: 0 ^ MIN ^ 5.
        new Run().after("person(0, 0)", "person(5, 0)").due("act(1, 2, MAX)", -2147483643L);
    }

    /** The numbers of the bodies that ran in the latest act(), in the order in which they began. */
    private static void traceOfTheLatest() {
        Run x = new Run().after("person(6, 0)").due("act(0, 2, 1)", -(4 ^ 2)).due("status(19)", 10);
        x.dueFrom0("trace(", 50, 12, 71, 11, 70, 51, 10, 70, 51, 10, -1).due("trace(-1)", -1);
        x.due("act(0, 0, 1)", 2).due("status(19)", 3).dueFrom0("trace(", 70, 51, 10, -1, -1, -1, -1, -1, -1, -1, -1);
        x.after("may(6)", "by(0, 10)", "summer(1)", "day()").dueFrom0("trace(", 70, 51, 10, -1).due("status(19)", 3);
    }

    /** The first 20 are kept: no body leads to more than 10. */
    private static void traceOfAtMost10() {
        int[][] bodies = {{1, 2, 4}, {2, 3, 6}, {1, 3, 5}, {2, 4, 7}, {2, 3, 7}, {1, 3, 6}, {3, 5, 10}};
        for (int kind = 0; kind <= 6; kind++) {
            Run x = new Run().after("person(" + kind + ", 3)");
            for (int move = 0; move <= 2; move++) {
                x.after("act(0, " + move + ", 5)").due("status(19)", bodies[kind][move]).due("trace(" + (bodies[kind][move] - 1) + ")", 10);
                x.due("trace(" + bodies[kind][move] + ")", -1).due("trace(19)", -1).due("trace(20)", -1).due("trace(21)", -1);
            }
        }
    }

    /** NONE: none such, also ahead of any act(). */
    private static void noTrace() {
        Run x = new Run().after("person(0, 0)");
        for (String i : new String[] {"0", "-1", "19", "20", "MIN", "MAX"}) x.due("trace(" + i + ")", -1);
        x.after("act(0, 0, 0)").due("trace(0)", 10).due("trace(1)", -1).due("trace(MAX)", -1).due("trace(MIN)", -1).due("status(15)", 0);
    }

    /** There is none: -6, and all stays. */
    private static void noImage() {
        Run x = new Run().after("person(0, 0)", "show(0, 0)").due("restore()", -6).due("status(0)", 1).due("holds(0)", 0).due("status(16)", 1);
        x.due("image()", 1).due("restore()", 1).due("status(16)", 1).due("restore()", 1);
    }

    private static void imageOfNobody() {
        Run x = new Run().due("image()", 0).furlongs(24, 1, true).times(6, "person(0, 0)").after("show(0, 0)", "show(7, 5)", "bag(5)", "does(0)", "seed(9)");
        x.due("restore()", 0).dueFrom0("status(", 0, 0, 0, 0, 3, 0, 3, 4, 20, 2, 1).due("status(18)", 1).due("holds(0)", -1).due("holds(7)", -1);
        x.due("bag(NONE)", -1).due("person(1, 1)", 0).due("personOf(0, 2)", 0).due("furlong(0, 0)", 0).due("furlongOf(0, 1)", 0).due("next()", 961);
    }

    private static void imageOfAllFull() {
        Run x = new Run().furlongs(23, -3, false).furlongs(1, 3, true).times(6, "person(6, 9)").after("tire(5, 99)", "show(0, 5)").due("image()", 6);
        x.after("day()").due("restore()", 6).due("status(1)", 24).due("furlongOf(23, 0)", 3).due("furlongOf(23, 1)", 1).due("personOf(5, 2)", 99);
        x.due("personOf(5, 0)", 6).due("personOf(5, 1)", 9).due("holds(0)", 5).due("furlong(0, 0)", -7).due("person(0, 0)", -7);
    }

    /** All but SHELVES and those that are named: each of it alone. */
    private static void imageOfAll() {
        Run x = new Run().furlongs(5, 0, true).after("person(0, 0)", "person(3, 0)", "tire(0, 7)", "bag(1)", "ask(0, 5)", "ask(1, 6)", "ask(2, 30)",
            "ask(3, 4)", "ask(4, 3)", "does(0)", "does(1)", "seed(8)", "image()");
        long[] told = {2, 5, 2, 13, 4, 2, 5, 6, 30, 4, 3};
        x.dueFrom0("status(", told);
        String[] changes = {"furlong(1, 1)", "person(1, 1)", "tire(0, 50)", "bag(0)", "bag(NONE)", "ask(0, 1)", "ask(1, 1)", "ask(2, 1)",
            "ask(3, 0)", "ask(4, 0)", "does(0)", "does(6)", "does(7)", "does(8)", "does(9)", "summer(3)", "day()", "seed(0)"};
        for (String change : changes) {
            x.after(change).due("restore()", 2).dueFrom0("status(", told).due("status(18)", 8).due("personOf(0, 2)", 9).due("personOf(1, 2)", 4).due("personOf(1, 3)", 1);
        }
    }

    private static void imageIsTakenAnew() {
        Run x = new Run().due("image()", 0).after("person(0, 0)").due("image()", 1).after("person(0, 0)", "tire(0, 5)").due("restore()", 1).due("personOf(0, 2)", 0);
        // What comes behind restore() is nothing to THE IMAGE.
        x.after("tire(0, 9)", "furlong(0, 0)").due("restore()", 1).due("personOf(0, 2)", 0).due("status(1)", 0);
    }

    /** SHELVES with PEOPLE hold those of these numbers, or NOTHING; those with ROWS stay. */
    private static void shelvesWithThoseOfTheseNumbers() {
        Run x = new Run().after("person(0, 0)", "person(0, 0)", "image()").times(4, "person(1, 0)");
        for (int s = 0; s < 6; s++) x.after("show(" + s + ", " + s + ")");
        x.after("row(6, 0, 3)", "set(6, 2, 9)").due("restore()", 2);
        x.dueFrom0("holds(", 0, 1, -1, -1, -1, -1, 100, -1).due("element(6, 2)", 9).due("says(2, 0)", -3).due("says(1, 0)", 0);
        x.after("person(1, 0)").due("holds(2)", -1);
        // Of these numbers, whoever they were ahead of it.
        Run y = new Run().after("person(3, 0)", "image()", "show(0, 0)", "show(1, NONE)").due("restore()", 1).due("says(0, 3)", 3).due("holds(1)", -1);
    }

    /** Not THE IMAGE, REFUSALS, the FAULT, THE TRACE. */
    private static void whatTheImageHasNot() {
        Run x = new Run().after("person(0, 0)", "image()", "act(0, 2, 3)", "may(10)", "may(11)").text(0, 0, "up 9").after("way(0)");
        x.due("restore()", 1).due("status(16)", 3).due("fault()", 3).due("status(19)", 4).due("trace(0)", 12).due("holds(0)", 100).due("element(0, 3)", '9');
        x.due("restore()", 1);
    }

    /** NONE for another what. */
    private static void statusOfAnotherWhat() {
        Run x = new Run().due("status(-1)", -1).due("status(21)", -1).due("status(MIN)", -1).due("status(MAX)", -1).due("status(0)", 0).due("status(20)", 0);
        for (int w = 11; w <= 17; w++) x.due("status(" + w + ")", 0);
    }

    /** 11 to 17: REFUSALS -1 to -7, each of its own; those told ten farther down with them. */
    private static void statusCountsEachRefusal() {
        Run x = new Run().furlongs(24, 0, false).after("person(0, 0)", "show(0, 0)", "row(1, 0, 61)");
        String[] one = {"row(8, 0, 0)", "set(0, 0, 0)", "set(2, 0, 0)", "row(2, 0, -1)", "set(1, 61, 0)", "may(10)", "furlong(0, 0)"};
        String[] far = {"bag(6)", "judge(0, 0)", "judge(2, 0)", "judge(1, -1)", "furlongOf(24, 0)", "turn(4, 0)"};
        for (int i = 0; i < 7; i++) {
            x.due(one[i], -1 - i);
            for (int w = 0; w < 7; w++) x.due("status(" + (11 + w) + ")", w <= i ? 1 : 0);
        }
        for (int i = 0; i < 6; i++) {
            x.due(far[i], -11 - i);
            for (int w = 0; w < 7; w++) x.due("status(" + (11 + w) + ")", w <= i ? 2 : 1);
        }
        x.times(100, "judge(1, 61)").due("status(16)", 102).due("status(11)", 2);
    }

    /** Where nothing is refused, nothing is counted. */
    private static void whatIsNotCounted() {
        Run x = new Run().after("element(8, 0)", "element(0, -1)", "holds(8)", "fault()", "trace(-1)", "act(9, 9, 9)", "seed(MIN)", "status(99)",
            "next()", "day()", "image()", "restore()", "summer(60)", "judge(0, 0)", "enough()", "best(0)", "turn(0, -1)", "bag(NONE)");
        for (int w = 11; w <= 17; w++) x.due("status(" + w + ")", w == 13 ? 1 : 0);
    }
}
