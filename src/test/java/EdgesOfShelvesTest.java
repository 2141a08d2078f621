/** The edges that the document names for shelves and rows: promises 1 to 8. */
public final class EdgesOfShelvesTest {
    public static void main(String[] args) {
        shelvesFrom0To7();
        nothingAtFirst();
        sortsFrom0To3();
        elementsFrom0To160();
        elementsAre0AtFirst();
        lowestBitsOfBytes();
        lowestBitsOfShorts();
        lowestBitsOfInts();
        allBitsOfLongs();
        copyOfAllOrNone();
        copyAsTheyWereAhead();
        elementThatIsNotThere();
        holds();
        showNobody();
        saysOfEachKind();
        saysWhetherAsleep();
        saysLoadOfAFlatFurlong();
        Due.end();
    }

    /** SHELVES 0 to 7. */
    private static void shelvesFrom0To7() {
        Run x = new Run();
        for (int s = 0; s <= 7; s++) {
            x.due("row(" + s + ", 2, 1)", 1).due("set(" + s + ", 0, " + (40 + s) + ")", 1);
        }
        for (int s = 0; s <= 7; s++) x.due("element(" + s + ", 0)", 40 + s).due("holds(" + s + ")", 102);
        x.due("row(8, 2, 1)", -1).due("row(-1, 2, 1)", -1);
    }

    /** SHELVES hold NOTHING at first. */
    private static void nothingAtFirst() {
        Run x = new Run();
        for (int s = 0; s <= 7; s++) x.due("holds(" + s + ")", -1).due("element(" + s + ", 0)", 0).due("set(" + s + ", 0, 1)", -3);
    }

    /** A ROW has a SORT (0 bytes, 1 shorts, 2 ints, 3 longs). */
    private static void sortsFrom0To3() {
        Run x = new Run();
        for (int sort = 0; sort <= 3; sort++) x.due("row(0, " + sort + ", 1)", 1).due("holds(0)", 100 + sort);
        x.due("row(0, 4, 1)", -6).due("row(0, -1, 1)", -6).due("holds(0)", 103);
    }

    /** A ROW has 0 to 160 elements. */
    private static void elementsFrom0To160() {
        for (int sort = 0; sort <= 3; sort++) {
            Run x = new Run();
            x.due("row(0, " + sort + ", 0)", 1).due("holds(0)", 100 + sort);
            x.due("set(0, 0, 1)", -5).due("set(0, -1, 1)", -5).due("element(0, 0)", 0);
            x.due("row(0, " + sort + ", 1)", 1).due("set(0, 0, 1)", 1).due("set(0, 1, 1)", -5).due("element(0, 0)", 1);
            x.due("row(0, " + sort + ", 160)", 1).due("set(0, 159, 7)", 1).due("set(0, 160, 7)", -5).due("element(0, 159)", 7);
            x.due("row(0, " + sort + ", 161)", -7).due("element(0, 159)", 7);
        }
    }

    /** Elements are 0 at first, also where another ROW was. */
    private static void elementsAre0AtFirst() {
        Run x = new Run().after("row(3, 3, 160)");
        for (int i = 0; i < 160; i++) x.after("set(3, " + i + ", -1)");
        x.due("row(3, 3, 160)", 1);
        for (int i = 0; i < 160; i++) x.due("element(3, " + i + ")", 0);
        x.after("set(3, 0, 5)", "set(3, 1, 6)", "row(3, 0, 1)").due("element(3, 0)", 0).due("element(3, 1)", 0);
        x.after("row(3, 0, 2)").due("element(3, 1)", 0);
    }

    private static void kept(int sort, long put, long held) {
        new Run().after("row(0, " + sort + ", 3)").due("set(0, 1, " + put + ")", 1)
            .due("element(0, 1)", held).due("element(0, 0)", 0).due("element(0, 2)", 0);
    }

    /** What is put in keeps its lowest bits. */
    private static void lowestBitsOfBytes() {
        kept(0, 127, 127);
        kept(0, 128, -128);
        kept(0, 255, -1);
        kept(0, 256, 0);
        kept(0, -128, -128);
        kept(0, -129, 127);
        kept(0, Long.MAX_VALUE, -1);
        kept(0, Long.MIN_VALUE, 0);
    }

    private static void lowestBitsOfShorts() {
        kept(1, 32767, 32767);
        kept(1, 32768, -32768);
        kept(1, 65535, -1);
        kept(1, 65536, 0);
        kept(1, -32768, -32768);
        kept(1, -32769, 32767);
        kept(1, Long.MAX_VALUE, -1);
        kept(1, Long.MIN_VALUE, 0);
    }

    private static void lowestBitsOfInts() {
        kept(2, 2147483647L, 2147483647L);
        kept(2, 2147483648L, -2147483648L);
        kept(2, 4294967295L, -1);
        kept(2, 4294967296L, 0);
        kept(2, -2147483648L, -2147483648L);
        kept(2, -2147483649L, 2147483647L);
        kept(2, Long.MAX_VALUE, -1);
        kept(2, Long.MIN_VALUE, 0);
    }

    private static void allBitsOfLongs() {
        kept(3, Long.MAX_VALUE, Long.MAX_VALUE);
        kept(3, Long.MIN_VALUE, Long.MIN_VALUE);
        kept(3, 4294967296L, 4294967296L);
        kept(3, -1, -1);
    }

    /** From the first element to the last, and none at either end; longs come whole. */
    private static void copyOfAllOrNone() {
        Run x = new Run().numbers(0, 2, 1, 2, 3, 4, 5).numbers(1, 2, 9, 9, 9, 9, 9).after("row(2, 2, 0)");
        x.due("copy(0, 1, 0, 0, 5)", 1).dueFrom0("element(1, ", 1, 2, 3, 4, 5, 0);
        x.due("copy(0, 1, 4, 0, 1)", 1).due("copy(0, 1, 0, 4, 1)", 1).dueFrom0("element(1, ", 5, 2, 3, 4, 1, 0);
        x.due("copy(0, 1, 5, 0, 0)", 1).due("copy(0, 1, 0, 5, 0)", 1).due("copy(0, 1, 5, 5, 0)", 1).due("copy(0, 1, 0, 0, 0)", 1);
        x.due("copy(2, 1, 0, 5, 0)", 1).due("copy(1, 2, 5, 0, 0)", 1).due("copy(2, 2, 0, 0, 0)", 1);
        x.dueFrom0("element(1, ", 5, 2, 3, 4, 1, 0).dueFrom0("element(0, ", 1, 2, 3, 4, 5, 0);
        Run y = new Run().after("row(0, 3, 160)", "row(1, 3, 160)", "set(0, 0, -9223372036854775808)", "set(0, 159, 9223372036854775807)");
        y.due("copy(0, 1, 0, 0, 160)", 1).due("element(1, 0)", Long.MIN_VALUE).due("element(1, 159)", Long.MAX_VALUE);
        y.due("copy(0, 1, 0, 0, 161)", -5).due("copy(0, 1, 159, 0, 1)", 1).due("element(1, 0)", Long.MAX_VALUE);
        y.due("copy(0, 1, 160, 0, 1)", -5).due("copy(0, 1, 0, 160, 1)", -5).due("copy(0, 1, 160, 160, 0)", 1);
    }

    /** They come as they were ahead, also within one ROW. */
    private static void copyAsTheyWereAhead() {
        new Run().numbers(0, 1, 1, 2, 3, 4, 5).due("copy(0, 0, 0, 1, 4)", 1).dueFrom0("element(0, ", 1, 1, 2, 3, 4);
        new Run().numbers(0, 1, 1, 2, 3, 4, 5).due("copy(0, 0, 1, 0, 4)", 1).dueFrom0("element(0, ", 2, 3, 4, 5, 5);
        new Run().numbers(0, 1, 1, 2, 3, 4, 5).due("copy(0, 0, 0, 0, 5)", 1).dueFrom0("element(0, ", 1, 2, 3, 4, 5);
    }

    /** 0 if there is none (nothing is refused). */
    private static void elementThatIsNotThere() {
        Run x = new Run().numbers(0, 2, 7, 8).after("row(1, 2, 0)", "person(0, 0)", "tire(0, 5)", "show(2, 0)");
        x.due("element(0, 1)", 8).due("element(0, 2)", 0).due("element(0, -1)", 0).due("element(0, MIN)", 0).due("element(0, MAX)", 0);
        x.due("element(1, 0)", 0).due("element(2, 0)", 0).due("element(3, 0)", 0);
        x.due("element(8, 0)", 0).due("element(-1, 0)", 0).due("element(MIN, 0)", 0).due("element(MAX, MAX)", 0);
        for (int w = 11; w <= 17; w++) x.due("status(" + w + ")", 0);
    }

    /** NONE: NOTHING, or no such SHELF; a PERSON's number; 100 and the SORT of a ROW; nothing is refused. */
    private static void holds() {
        Run x = new Run().after("person(0, 0)", "person(0, 0)", "person(0, 0)", "person(0, 0)", "person(0, 0)", "person(0, 0)");
        for (int p = 0; p < 6; p++) x.due("show(0, " + p + ")", 1).due("holds(0)", p);
        x.due("show(0, 6)", -1).due("holds(0)", 5).due("show(0, NONE)", 0).due("holds(0)", -1).due("show(0, NONE)", 0);
        x.due("holds(-1)", -1).due("holds(8)", -1).due("holds(MIN)", -1).due("holds(MAX)", -1).due("status(11)", 1);
        x.due("row(7, 3, 0)", 1).due("holds(7)", 103).due("show(7, 5)", 1).due("holds(7)", 5).due("element(7, 0)", 0);
        x.due("row(7, 0, 2)", 1).due("holds(7)", 100).due("show(7, NONE)", 0).due("set(7, 0, 1)", -3);
    }

    /** NONE is nobody's number, also where nobody is. */
    private static void showNobody() {
        new Run().due("show(0, NONE)", 0).due("show(7, NONE)", 0).due("show(0, 0)", -1).due("status(11)", 1);
    }

    /** Each of the kinds, taken for each: -2 for one who isn't of it, or under it. */
    private static void saysOfEachKind() {
        // What they say for PERSON, STRONG, STRANGE, FATHER, SMALL, UNCLE, GRAN: nobody is tired, she is awake.
        int[][] want = {
            {0, -2, -2, -2, -2, -2, -2},
            {0, 2, -2, -2, -2, -2, -2},
            {0, -2, 0, -2, -2, -2, -2},
            {0, 3, -2, 3, -2, -2, -2},
            {0, -2, -2, -2, 6, -2, -2},
            {0, -2, 0, -2, -2, 0, -2},
            {0, -2, -2, -2, 6, -2, 6},
        };
        for (int kind = 0; kind <= 6; kind++) {
            Run x = new Run().after("person(" + kind + ", 9)").due("show(3, 0)", 1);
            for (int of = 0; of <= 6; of++) x.due("says(3, " + of + ")", want[kind][of]);
            x.after("tire(0, 99)").due("says(3, 0)", 99).due("says(3, 7)", -1).due("says(3, -1)", -1);
        }
    }

    /** 1 if she would go with him now: ASLEEP behind NAP furlongs, whatever WORN is; BAG aside for those who rest. */
    private static void saysWhetherAsleep() {
        Run x = new Run().furlongs(4, 0, false).after("person(3, 0)", "person(2, 0)", "person(5, 0)", "ask(1, 3)");
        x.after("show(0, 0)", "show(1, 1)", "show(2, 2)", "tire(1, 99)", "tire(2, 99)", "ask(2, 20)", "bag(0)");
        for (int on = 0; on < 3; on++) {
            x.due("says(1, 2)", 0).due("says(2, 2)", 0).due("says(2, 5)", 0).due("does(0)", on + 1);
        }
        x.due("says(1, 2)", 1).due("says(2, 2)", 1).due("says(2, 5)", 1).due("may(1)", 0).due("may(2)", 0);
        x.due("says(0, 1)", 3).due("says(0, 3)", 3).after("bag(NONE)").due("says(0, 3)", 3);
        x.after("does(0)").due("status(2)", 4).due("says(1, 2)", 1).after("day()").due("says(1, 2)", 0);
    }

    /** With the BAG, and a tenth of how tired GRAN is; also where no FURLONG is. */
    private static void saysLoadOfAFlatFurlong() {
        Run x = new Run().after("person(4, 0)", "person(6, 0)", "show(0, 0)", "show(1, 1)", "tire(0, 99)", "tire(1, 9)");
        x.due("says(0, 4)", 6).due("says(1, 4)", 6).due("says(1, 6)", 6);
        x.after("tire(1, 10)").due("says(1, 4)", 7).due("says(1, 6)", 7).after("tire(1, 99)").due("says(1, 6)", 15);
        x.after("bag(1)").due("says(1, 4)", 17).due("says(1, 6)", 17).due("says(0, 4)", 6);
        x.after("bag(0)").due("says(1, 6)", 15).due("says(0, 4)", 8);
    }
}
