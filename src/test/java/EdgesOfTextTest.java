/** The edges that the document names for ways read from texts: promises 16 and 17. */
public final class EdgesOfTextTest {
    private static final String[] ITEMS = {"up 3", "stile", "down 2", "person 6 9", "tired 0 12", "bag 0", "legs 5",
        "nap 9", "worn 30", "biscuits 0", "races 9", "act 6", "act 9"};
    private static final String[] WORDS = {"up", "down", "legs", "nap", "worn", "biscuits", "races"};
    private static final int[] LOWEST = {0, 0, 1, 1, 1, 0, 0};
    private static final int[] HIGHEST = {3, 3, 9, 9, 99, 9, 9};

    public static void main(String[] args) {
        endsTooEarly();
        endsTooEarlyBehindALongerText();
        anElementThatCantStand();
        anElementTooMany();
        noElements();
        elements160();
        numbersOfEachWord();
        numbersOfPeople();
        numbersOfActs();
        numbersOfThreeDigits();
        numbersOfNoDigits();
        furlongs24AtMost();
        people6AtMost();
        roomIsAskedOfAWholeWord();
        stileWithoutAFurlong();
        actThatMayNotBe();
        restsUpTo900();
        allOrNothing();
        overWhatThereIs();
        faultOfTheLatest();
        elementsOfEachSort();
        Due.end();
    }

    private static Run reads(Run x, String text, int items) {
        Due.due("items of \"" + text + "\"", x.text(0, 0, text).answer("way(0)"), items);
        Due.due("no fault of \"" + text + "\"", x.answer("fault()"), -1);
        return x;
    }

    private static Run refuses(Run x, String text, int fault) {
        Due.due("refused \"" + text + "\"", x.text(0, 0, text).answer("way(0)"), -6);
        Due.due("fault of \"" + text + "\"", x.answer("fault()"), fault);
        return x;
    }

    private static String whole() {
        return String.join(";", ITEMS);
    }

    /** How many ITEMS the first letters of the whole text are, if they are a text; 0 if not. */
    private static int itemsOf(String beginning) {
        String text = "";
        for (int i = 0; i < ITEMS.length; i++) {
            text += (i == 0 ? "" : ";") + ITEMS[i];
            boolean oneDigitOfTwo = (ITEMS[i].equals("tired 0 12") || ITEMS[i].equals("worn 30"))
                && beginning.equals(text.substring(0, text.length() - 1));
            if (beginning.equals(text) || oneDigitOfTwo) return i + 1;
        }
        return 0;
    }

    /** The FAULT is the number of elements, if it ends too early. */
    private static void endsTooEarly() {
        for (int n = 0; n <= whole().length(); n++) {
            String text = whole().substring(0, n);
            int items = itemsOf(text);
            if (items > 0) reads(new Run(), text, items);
            else refuses(new Run(), text, n);
        }
    }

    /** Also where a longer text was read ahead of it, of which the elements went on. */
    private static void endsTooEarlyBehindALongerText() {
        for (int n = 0; n < whole().length(); n++) {
            String text = whole().substring(0, n);
            Run x = refuses(new Run(), whole() + ";x", whole().length() + 1);
            int items = itemsOf(text);
            if (items > 0) reads(x, text, items);
            else refuses(x, text, n);
        }
    }

    /** The FAULT is the first place at which an element can't stand as such texts go on. */
    private static void anElementThatCantStand() {
        char[] cant = {'#', 'U', 0, 255, '/', ':'};
        for (int i = 0; i < whole().length(); i++) {
            for (char c : cant) {
                refuses(new Run(), whole().substring(0, i) + c + whole().substring(i + 1), i);
            }
        }
    }

    /** Behind a whole ITEM stands ; or nothing. */
    private static void anElementTooMany() {
        refuses(new Run(), whole() + " ", whole().length());
        refuses(new Run(), whole() + ";", whole().length() + 1);
        refuses(new Run(), whole() + ",nap 1", whole().length());
        refuses(new Run(), ";" + whole(), 0);
        refuses(new Run(), " " + whole(), 0);
        refuses(new Run(), "up 1;;up 1", 5);
        refuses(new Run(), "up  1", 3);
        refuses(new Run(), "up 1 ;up 1", 4);
        refuses(new Run(), "up 1; up 1", 5);
        refuses(new Run(), "person 1  1", 9);
        refuses(new Run(), "up 1;stile ", 10);
        refuses(new Run(), "up 1;stiles", 10);
    }

    /** A ROW of 0 elements ends too early at 0. */
    private static void noElements() {
        for (int sort = 0; sort <= 3; sort++) {
            new Run().after("row(0, " + sort + ", 0)").due("way(0)", -6).due("fault()", 0).due("status(16)", 1);
        }
    }

    /** All 160 elements are read: the last digit of the last NUMBER counts. */
    private static void elements160() {
        String text = "up 1;".repeat(20) + "nap 1;".repeat(8) + "legs 9;up 02";
        reads(new Run(), text, 30).due("furlongOf(20, 0)", 2);
        Due.due("its length", text.length(), 160);
        refuses(new Run(), text.substring(0, 158) + "04", 158);
        refuses(new Run(), text.substring(0, 159) + "x", 159);
        refuses(new Run(), text.substring(0, 158) + "2;", 160);
    }

    private static String twoDigits(int n) {
        return n < 10 ? "0" + n : String.valueOf(n);
    }

    /** A NUMBER that may not be: the place of its first digit; a 0 may be ahead of it. */
    private static void numbersOfEachWord() {
        for (int w = 0; w < WORDS.length; w++) {
            for (int n = 0; n <= 99; n++) {
                boolean may = n >= LOWEST[w] && n <= HIGHEST[w];
                String[] texts = {WORDS[w] + " " + n, WORDS[w] + " " + twoDigits(n)};
                for (String text : texts) {
                    if (may) reads(new Run(), text, 1);
                    else refuses(new Run(), text, WORDS[w].length() + 1);
                }
            }
        }
    }

    /** person K A, tired P N, bag P: 0 to 6, 0 to 9; those that are there, 0 to 99. */
    private static void numbersOfPeople() {
        for (int n = 0; n <= 99; n++) {
            if (n <= 6) reads(new Run(), "person " + n + " 0", 1).due("personOf(0, 0)", n);
            else refuses(new Run(), "person " + n + " 0", 7);
            if (n <= 9) reads(new Run(), "person 0 " + n, 1).due("personOf(0, 1)", n);
            else refuses(new Run(), "person 0 " + n, 9);
            Run two = new Run().after("person(0, 0)", "person(0, 0)");
            if (n <= 1) reads(two, "tired " + n + " 5;bag " + n, 2).due("personOf(" + n + ", 2)", 5).due("personOf(" + n + ", 3)", 1);
            else refuses(refuses(two, "tired " + n + " 5", 6), "bag " + n, 4);
            reads(new Run().after("person(0, 0)"), "tired 00 " + n, 1).due("personOf(0, 2)", n);
        }
        refuses(new Run(), "tired 0 0", 6);
        refuses(new Run(), "bag 0", 4);
        reads(new Run().times(5, "person(0, 0)"), "person 0 0;tired 5 99;bag 05", 3);
        refuses(new Run().times(6, "person(0, 0)"), "bag 6", 4);
        refuses(new Run().times(6, "person(0, 0)"), "tired 6 0", 6);
    }

    /** act X: 0 to 9, and it MAY be. */
    private static void numbersOfActs() {
        for (int n = 0; n <= 99; n++) {
            Run x = new Run().furlongs(1, 0, false).times(6, "person(0, 0)");
            if (n <= 9) reads(x, "act " + n, 1);
            else refuses(x, "act " + n, 4);
        }
        reads(new Run().furlongs(1, 0, false), "act 06", 1).due("status(2)", 1);
    }

    /** 1 to 2 digits: a third can't stand, unless the first two may not be. */
    private static void numbersOfThreeDigits() {
        refuses(new Run(), "up 000", 5);
        refuses(new Run(), "up 003", 5);
        refuses(new Run(), "up 300", 3);
        refuses(new Run(), "worn 099", 7);
        refuses(new Run(), "worn 100", 7);
        refuses(new Run(), "worn 990", 7);
        refuses(new Run(), "worn 000", 5);
        refuses(new Run(), "legs 001", 5);
        refuses(new Run(), "person 000 0", 9);
        refuses(new Run(), "person 0 000", 11);
        refuses(new Run().furlongs(1, 0, false), "act 006", 4);
        refuses(new Run().furlongs(1, 0, false).after("person(0, 0)"), "act 006", 6);
    }

    private static void numbersOfNoDigits() {
        refuses(new Run(), "up ;up 1", 3);
        refuses(new Run(), "up -1", 3);
        refuses(new Run(), "up +1", 3);
        refuses(new Run(), "person ", 7);
        refuses(new Run(), "person 1", 8);
        refuses(new Run(), "person 1 ", 9);
        refuses(new Run(), "person 1;", 8);
        refuses(new Run(), "person 7", 7);
        refuses(new Run(), "person 7x", 7);
        refuses(new Run(), "person 6x", 8);
        refuses(new Run(), "tired 0", 6);
    }

    /** What there is no room for can't stand: its word. */
    private static void furlongs24AtMost() {
        reads(new Run().furlongs(23, 0, false), "down 3", 1).due("status(1)", 24).due("furlongOf(23, 0)", -3);
        refuses(new Run().furlongs(24, 0, false), "up 0", 0).due("status(1)", 24);
        refuses(new Run().furlongs(24, 0, false), "nap 1;down 0", 6);
        refuses(new Run().furlongs(23, 0, false), "up 0;up 0", 5).due("status(1)", 23);
        String all = "up 0;".repeat(23) + "up 0";
        reads(new Run(), all, 24).due("status(1)", 24);
        refuses(new Run(), all + ";down 0", all.length() + 1).due("status(1)", 0);
    }

    private static void people6AtMost() {
        reads(new Run().times(5, "person(0, 0)"), "person 6 9", 1).due("status(0)", 6);
        refuses(new Run().times(6, "person(0, 0)"), "person 6 9", 0).due("status(0)", 6);
        String all = "person 0 0;".repeat(5) + "person 0 0";
        reads(new Run(), all, 6).due("status(0)", 6);
        refuses(new Run(), all + ";person 0 0", all.length() + 1).due("status(0)", 0);
    }

    /** Until its letters stand whole the first element that is not as it is the FAULT, or the number of elements. */
    private static void roomIsAskedOfAWholeWord() {
        Run x = new Run().furlongs(24, 0, false).times(6, "person(0, 0)");
        refuses(x, "u", 1);
        refuses(x, "ux", 1);
        refuses(x, "up", 0);
        refuses(x, "up 9", 0);
        refuses(x, "dow", 3);
        refuses(x, "dowx", 3);
        refuses(x, "down", 0);
        refuses(x, "downx", 0);
        refuses(x, "perso", 5);
        refuses(x, "perso ", 5);
        refuses(x, "person", 0);
        refuses(x, "nap 1;person 9", 6);
        refuses(x, "nap 1;perso", 11);
        Run y = new Run();
        refuses(y, "stil", 4);
        refuses(y, "stil;", 4);
        refuses(y, "stile", 0);
        refuses(y, "nap 1;stile;x", 6);
    }

    private static void stileWithoutAFurlong() {
        refuses(new Run(), "stile", 0).due("status(1)", 0);
        refuses(new Run(), "stile;up 0", 0).due("status(1)", 0);
        reads(new Run(), "up 0;stile", 2).due("furlongOf(0, 1)", 1);
        reads(new Run().furlongs(2, 0, false), "stile", 1).due("furlongOf(0, 1)", 0).due("furlongOf(1, 1)", 1);
        reads(new Run().furlongs(24, 0, false), "stile;stile", 2).due("furlongOf(23, 1)", 1).due("furlongOf(22, 1)", 0);
    }

    /** Of an act that MAY not be its first digit. */
    private static void actThatMayNotBe() {
        refuses(new Run(), "act 6", 4);
        refuses(new Run(), "act 0", 4);
        refuses(new Run(), "act 06", 4);
        refuses(new Run(), "act 6x", 4);
        refuses(new Run().furlongs(2, 0, false), "act 6;act 9", 10).due("status(2)", 0);
        reads(new Run().furlongs(2, 0, true), "act 6;act 9", 2).due("status(2)", 1).due("status(3)", 19);
        refuses(new Run().furlongs(1, 0, false), "act 6;act 6", 10);
        refuses(new Run(), "up 0;person 2 0;act 0", 20);
        reads(new Run(), "up 0;up 0;person 0 0;person 2 0;nap 1;act 0;act 1", 7).due("status(2)", 2);
        refuses(new Run(), "up 0;worn 4;person 0 0;tired 0 1;act 0", 37);
        reads(new Run(), "up 0;worn 5;person 0 0;tired 0 1;act 0", 5).due("personOf(0, 2)", 5);
    }

    /** MINUTES are 900 at most for a REST. */
    private static void restsUpTo900() {
        reads(new Run().times(90, "does(9)"), "act 9", 1).due("status(3)", 910);
        refuses(new Run().times(90, "does(9)"), "act 9;act 9", 10).due("status(3)", 900);
        refuses(new Run().times(91, "does(9)"), "act 9", 4).due("status(3)", 910);
    }

    /** All is told, or nothing. */
    private static void allOrNothing() {
        Run x = new Run().after("furlong(2, 0)", "person(3, 4)", "tire(0, 7)", "seed(5)");
        refuses(x, "stile;up 1;person 1 1;tired 0 9;bag 0;legs 1;nap 1;worn 90;biscuits 0;races 0;act 0;up 4", 87);
        x.dueFrom0("status(", 1, 1, 0, 0, 3, 0, 3, 4, 20, 2, 1).due("status(18)", 5).due("status(16)", 1);
        x.due("personOf(0, 2)", 7).due("personOf(0, 3)", 0).due("furlongOf(0, 1)", 0).due("furlongOf(1, 0)", -15);
        reads(x, "stile;up 1;person 1 1;tired 0 9;bag 0;legs 1;nap 1;worn 90;biscuits 0;races 0;act 0;up 3", 12);
        // FATHER up 2 with the BAG: 6; she is carried 9 minutes.
        x.dueFrom0("status(", 2, 3, 1, 9, 1, 1, 1, 1, 90, 0, 0).due("status(18)", 5).due("status(20)", 1);
        x.due("personOf(0, 2)", 15).due("personOf(0, 3)", 1).due("furlongOf(0, 1)", 1).due("furlongOf(2, 0)", 3);
    }

    /** All is told over what there is, each ITEM over those ahead of it. */
    private static void overWhatThereIs() {
        reads(new Run(), "legs 9;legs 2;nap 1;nap 8;worn 99;worn 1;biscuits 9;biscuits 1;races 9;races 0", 10)
            .dueFrom0("status(", 0, 0, 0, 0, 2, 0, 2, 8, 1, 1, 0);
        reads(new Run().after("person(0, 0)", "person(0, 0)"), "bag 0;bag 1;tired 1 9;tired 1 0", 4)
            .due("personOf(0, 3)", 0).due("personOf(1, 3)", 1).due("personOf(1, 2)", 0);
        // LEGS 4 by a BISCUIT.
        reads(new Run().furlongs(2, 0, false).after("does(7)"), "legs 4", 1).due("status(4)", 4).due("status(6)", 4);
        reads(new Run().furlongs(2, 0, false).after("does(7)"), "legs 3", 1).due("status(4)", 3).due("status(6)", 3);
    }

    /** NONE: there was none, or none yet; a call that came to no ROW leaves it. */
    private static void faultOfTheLatest() {
        Run x = new Run().due("fault()", -1).after("person(0, 0)", "show(1, 0)", "way(1)", "way(2)", "way(8)").due("fault()", -1);
        refuses(x, "up 1;x", 5).after("way(1)", "way(2)", "way(8)", "way(-1)").due("fault()", 5);
        refuses(x, "x", 0).due("fault()", 0);
        reads(x, "up 1", 1).due("fault()", -1).after("way(8)").due("fault()", -1);
    }

    /** Bytes, shorts, ints; of longs the lowest 32 bits. */
    private static void elementsOfEachSort() {
        for (int sort = 0; sort <= 3; sort++) {
            Run x = new Run().text(0, sort, "up 2").due("way(0)", 1).due("furlongOf(0, 0)", 2);
            x.after("set(0, 1, " + ('p' + 256) + ")").due("way(0)", sort == 0 ? 1 : -6).due("fault()", sort == 0 ? -1 : 1);
            x.after("set(0, 1, " + ('p' + 65536) + ")").due("way(0)", sort <= 1 ? 1 : -6).due("fault()", sort <= 1 ? -1 : 1);
            x.after("set(0, 1, " + ('p' + (1L << 32)) + ")").due("way(0)", 1).due("fault()", -1);
            x.after("set(0, 1, " + ('p' - (1L << 62)) + ")").due("way(0)", 1).due("fault()", -1);
            x.after("set(0, 1, " + -(long) 'p' + ")").due("way(0)", -6).due("fault()", 1);
        }
    }
}
