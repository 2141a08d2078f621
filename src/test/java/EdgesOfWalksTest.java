/** The edges that the document names for told walks, rows of TIRED and summers: promises 28 to 31, 35 and 37. */
public final class EdgesOfWalksTest {
    public static void main(String[] args) {
        noneOfTheElements();
        upTo60();
        asManyAsThereAre();
        wrongAtTheFirstOrTheLast();
        actsThatAreNone();
        restsAtTheEnd();
        restsUpTo900();
        behindAsItIsNow();
        doneWhole();
        lowestBitsOfLongs();
        fitsByAsManyAsPeople();
        fitsOfNobody();
        fitsOfTheLastOfSix();
        summerOf1To60();
        summerWithoutADraw();
        drawsBelow1();
        seedWraps();
        upperBitsHaveNoSign();
        seedIsNeverRefused();
        Due.end();
    }

    /** The first n elements: 0 of them, also of a ROW of 0. */
    private static void noneOfTheElements() {
        Run x = new Run().furlongs(1, 0, false).after("person(0, 0)", "tire(0, 9)", "row(0, 0, 0)").numbers(1, 2, 5);
        for (int s = 0; s <= 1; s++) {
            x.due("judge(" + s + ", 0)", -1).due("done(" + s + ", 0)", 0).dueFrom0("behind(" + s + ", 0, ", 0, 0, 9, 3, -5);
        }
        x.due("judge(0, 1)", -15).due("done(0, 1)", -5).due("behind(0, 1, 0)", -5);
        x.due("judge(1, 1)", 0).due("done(1, 1)", -6).due("behind(1, 1, 0)", -6).due("status(2)", 0);
    }

    /** n is 0 to 60, however many there are. */
    private static void upTo60() {
        Run x = new Run().after("row(0, 0, 160)");
        for (int i = 0; i < 61; i++) x.after("set(0, " + i + ", 9)");
        x.due("judge(0, 60)", -1).due("judge(0, 61)", -16).due("judge(0, 160)", -16).due("judge(0, 161)", -15).due("judge(0, -1)", -14);
        x.due("behind(0, 60, 1)", 600).due("behind(0, 61, 1)", -6).due("behind(0, 161, 1)", -5).due("behind(0, 61, 4)", -5);
        x.due("done(0, 61)", -6).due("done(0, 161)", -5).due("status(3)", 0).due("done(0, 60)", 0).due("status(3)", 600);
        // The 60th of them is looked at, too.
        Run y = new Run().after("row(0, 0, 60)");
        for (int i = 0; i < 59; i++) y.after("set(0, " + i + ", 9)");
        y.due("judge(0, 60)", 59).due("judge(0, 59)", -1).due("done(0, 60)", -6).due("judge(0, 61)", -15);
    }

    private static void asManyAsThereAre() {
        Run x = new Run().furlongs(3, 0, false).numbers(0, 1, 6, 6, 6);
        x.due("judge(0, 3)", -1).due("judge(0, 4)", -15).due("behind(0, 3, 0)", 3).due("behind(0, 4, 0)", -5).due("done(0, 4)", -5).due("done(0, 3)", 3);
    }

    /** WRONG: the first that MAY not be. */
    private static void wrongAtTheFirstOrTheLast() {
        Run x = new Run().furlongs(4, 0, false).numbers(0, 2, 6, 6, 6, 6);
        x.due("judge(0, 4)", 3).due("judge(0, 3)", -1).due("behind(0, 4, 0)", -6).due("behind(0, 3, 3)", 0).due("done(0, 4)", -6).due("status(2)", 0);
        x.after("set(0, 0, 0)").due("judge(0, 4)", 0).due("judge(0, 1)", 0).due("judge(0, 0)", -1);
        x.after("set(0, 0, 6)", "set(0, 3, 7)").due("judge(0, 4)", -1).due("done(0, 4)", 4).due("status(9)", 1);
    }

    /** What is no ACT MAY not be: nothing is refused for it. */
    private static void actsThatAreNone() {
        long[] none = {-1, 10, 11, Integer.MIN_VALUE, Integer.MAX_VALUE};
        for (long act : none) {
            Run x = new Run().furlongs(2, 0, false).times(6, "person(0, 0)").numbers(0, 2, 6, act);
            x.due("judge(0, 2)", 1).due("status(16)", 0).due("judge(0, 1)", -1).due("done(0, 2)", -6).due("status(16)", 1);
        }
        new Run().furlongs(2, 0, false).times(5, "person(0, 0)").numbers(0, 2, 4, 5).due("judge(0, 2)", 1);
    }

    /** A told WALK may rest behind the last STILE, as one MAY then. */
    private static void restsAtTheEnd() {
        Run x = new Run().furlongs(1, 0, true).numbers(0, 0, 6, 9, 9, 6);
        x.due("judge(0, 3)", -1).due("judge(0, 4)", 3).due("behind(0, 3, 1)", 29).due("done(0, 3)", 1).due("status(3)", 29).due("judge(0, 1)", 0);
        new Run().furlongs(1, 0, false).numbers(0, 0, 6, 9).due("judge(0, 2)", 1);
    }

    /** MINUTES are 900 at most. */
    private static void restsUpTo900() {
        Run x = new Run().furlongs(1, 0, false).numbers(0, 0, 9, 9, 6).times(89, "does(9)").due("judge(0, 3)", -1).due("behind(0, 2, 1)", 910);
        x.after("does(9)").due("judge(0, 3)", 1).due("behind(0, 1, 1)", 910).after("does(9)").due("judge(0, 1)", 0);
    }

    /** The greatest TIRED then, not ever; FURLONGS gone in all, not by it. */
    private static void behindAsItIsNow() {
        Run x = new Run().furlongs(4, 0, false).after("person(0, 0)", "person(3, 0)", "tire(1, 99)", "does(6)").numbers(0, 0, 0, 6);
        x.dueFrom0("behind(0, 0, ", 1, 9, 96, 2).dueFrom0("behind(0, 1, ", 2, 16, 93, 2).dueFrom0("behind(0, 2, ", 3, 25, 90, 1);
        x.after("tire(1, 5)").dueFrom0("behind(0, 1, ", 2, 16, 4, 2).dueFrom0("behind(0, 2, ", 3, 25, 2, 1);
        new Run().furlongs(1, 0, false).numbers(0, 0, 6).dueFrom0("behind(0, 1, ", 1, 9, 0, 2);
    }

    /** It comes to pass whole, or not at all. */
    private static void doneWhole() {
        Run x = new Run().furlongs(24, 0, true).after("person(0, 0)", "seed(3)").after("row(0, 0, 48)");
        for (int i = 0; i < 48; i++) x.after("set(0, " + i + ", " + (i % 2 == 0 ? 6 : 9) + ")");
        x.due("judge(0, 48)", -1).due("done(0, 48)", 24).due("status(2)", 24).due("status(3)", 24 * 19).due("status(18)", 3).due("done(0, 48)", -6);
        x.due("day()", 24).after("set(0, 47, 6)").due("done(0, 48)", -6).due("status(2)", 0).due("status(3)", 0).due("done(0, 47)", 24);
    }

    /** Elements of longs count by their lowest 32 bits. */
    private static void lowestBitsOfLongs() {
        long high = 1L << 32;
        Run x = new Run().furlongs(2, 0, false).after("person(0, 0)").numbers(0, 3, 6 + high, 6 - high).numbers(1, 3, 6 + (1L << 31));
        x.due("judge(0, 2)", -1).due("behind(0, 2, 0)", 2).due("judge(1, 1)", 0);
        x.numbers(2, 3, 8 + 7 * high).due("by(0, 10)", 8).due("fits(2)", 3).numbers(2, 3, 8 + (1L << 31)).due("fits(2)", 0);
        x.due("done(0, 2)", 2);
    }

    /** One for each PERSON: fewer are refused, more don't count. */
    private static void fitsByAsManyAsPeople() {
        Run x = new Run().furlongs(1, 0, false).after("person(0, 0)", "person(0, 0)", "tire(1, 50)");
        // TURNS and FRESH: 4 and 48; LEGS and COAX: 0 and 48.
        x.numbers(0, 2, 4, 48).due("fits(0)", 3).numbers(0, 2, 0, 48).due("fits(0)", 12).numbers(0, 2, 0, 49).due("fits(0)", 0);
        x.numbers(0, 2, 4).due("fits(0)", -5).after("row(0, 2, 0)").due("fits(0)", -5).numbers(0, 2, 4, 48, 77).due("fits(0)", 3);
        x.numbers(0, 0, 4, 48).due("fits(0)", 3).numbers(0, 1, 5, 48).due("fits(0)", 0);
    }

    /** Without PEOPLE all RULES fit. */
    private static void fitsOfNobody() {
        Run x = new Run().furlongs(3, 0, true).after("row(0, 0, 0)", "row(1, 3, 160)", "set(1, 0, 5)");
        x.due("fits(0)", 15).due("fits(1)", 15).due("fits(2)", -3).after("person(0, 0)").due("fits(0)", -5).due("fits(1)", 0);
    }

    private static void fitsOfTheLastOfSix() {
        Run x = new Run().furlongs(1, 0, false).times(6, "person(0, 0)").after("tire(5, 99)");
        x.numbers(0, 2, 4, 0, 0, 0, 0, 97).due("fits(0)", 3).after("set(0, 5, 96)").due("fits(0)", 0).numbers(0, 2, 4, 0, 0, 0, 0).due("fits(0)", -5);
    }

    private static int drawn(int seed, int draws) {
        for (int i = 0; i < draws; i++) seed = seed * 1103515245 + 12345;
        return seed;
    }

    /** A SUMMER of n ACTS (1 to 60). */
    private static void summerOf1To60() {
        Run x = new Run().due("summer(0)", -6).due("summer(61)", -6).due("summer(-1)", -6).due("status(18)", 1).due("status(3)", 0);
        x.due("summer(1)", 0).due("status(3)", 10).due("status(18)", drawn(1, 1));
        x.due("summer(60)", 0).due("status(3)", 610).due("status(18)", drawn(1, 61));
        // 30 RESTS more; then none MAY be, and what no DRAW is made for counts among the 60.
        x.due("summer(60)", 0).due("status(3)", 910).due("status(18)", drawn(1, 91)).due("summer(60)", 0).due("status(18)", drawn(1, 91));
    }

    /** None: no DRAW. */
    private static void summerWithoutADraw() {
        Run x = new Run().furlongs(1, 0, false).after("does(6)", "seed(5)").due("next()", 0).due("summer(1)", 0).due("summer(60)", 0).due("status(18)", 5);
        // FURLONGS gone in it alone: 2 of 3, by LEGS 2.
        Run y = new Run().furlongs(4, 0, false).after("ask(3, 0)", "ask(4, 0)", "does(6)", "seed(5)").due("summer(60)", 2).due("status(2)", 3);
        y.due("status(18)", drawn(5, 2)).due("summer(1)", 0);
    }

    /** Below 1 a DRAW is one, too. */
    private static void drawsBelow1() {
        new Run().furlongs(1, 0, false).after("person(0, 0)", "ask(1, 1)", "does(0)").furlongs(1, 0, false).due("next()", 1).due("summer(1)", 1).due("status(18)", 1103527590);
    }

    /** An int, wrapping. */
    private static void seedWraps() {
        int[] seeds = {0, 1, -1, Integer.MAX_VALUE, Integer.MIN_VALUE, 3, 65536};
        int[] then = {12345, 1103527590, -1103502900, 1043980748, -2147471303, -984409216, 1315778617};
        for (int i = 0; i < seeds.length; i++) {
            new Run().after("seed(" + seeds[i] + ")").due("summer(1)", 0).due("status(18)", then[i]).due("seed(0)", then[i]);
        }
    }

    /** Its upper 16 bits, no sign: of a SEED below 0 as of one above. */
    private static void upperBitsHaveNoSign() {
        // The SEED that comes of -1 is -1103502900, its upper bits 48697: below 3 that is 1, below 10 it is 7, BISCUIT both times.
        Run three = new Run().furlongs(1, 0, false).after("ask(4, 0)", "seed(-1)").due("next()", 704).due("summer(1)", 1).due("status(9)", 1);
        three.due("status(18)", -1103502900);
        new Run().furlongs(1, 0, false).times(6, "person(0, 0)").after("seed(-1)").due("next()", 1023).due("summer(1)", 1).due("status(9)", 1).due("status(10)", 1);
        // What comes of 0 has no upper bits: the first of all.
        new Run().furlongs(1, 0, false).times(6, "person(0, 0)").after("seed(0)").due("summer(1)", 1).due("personOf(0, 2)", 4);
    }

    private static void seedIsNeverRefused() {
        new Run().due("seed(MIN)", 1).due("seed(MAX)", Integer.MIN_VALUE).due("seed(0)", Integer.MAX_VALUE).due("seed(-1)", 0).due("status(18)", -1).due("status(16)", 0);
    }
}
