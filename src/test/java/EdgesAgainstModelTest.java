import java.util.Random;

/** Each call with all that its arguments may be at their edges, on objects that stand in several ways, beside the model. */
public final class EdgesAgainstModelTest {
    private static final long[] SHELVES = {-1, 0, 1, 2, 3, 4, 5, 6, 7, 8};
    private static final long[] COUNTS = {Integer.MIN_VALUE, -1, 0, 1, 2, 3, 4, 5, 6, 59, 60, 61, 62, 160, 161, Integer.MAX_VALUE};
    private static final long[] PEOPLE = {Integer.MIN_VALUE, -2, -1, 0, 1, 2, 3, 4, 5, 6, 7, Integer.MAX_VALUE};
    private static final long[] FURLONGS = {-1, 0, 1, 2, 4, 5, 6, 23, 24, Integer.MAX_VALUE};
    private static final long[] SMALL = {Integer.MIN_VALUE, -4, -3, -2, -1, 0, 1, 2, 3, 4, 5, 6, 7, 8, 9, 10, 11, Integer.MAX_VALUE};
    private static final long[] TIRED = {-1, 0, 1, 9, 10, 98, 99, 100, Integer.MAX_VALUE};
    private static final long[] WHATS = {-2, -1, 0, 1, 2, 3, 4, 5, 6, 7, 8, 9, 10, 11, 12, 13, 14, 15, 16, 17};
    private static final long[] MINUTES = {Integer.MIN_VALUE, -1, 0, 17, 18, 35, 36, 53, 54, 100, 500, Integer.MAX_VALUE};
    private static final long[] XS = {Integer.MIN_VALUE, -1, 0, 1, Integer.MAX_VALUE};

    private static String[] setting;

    public static void main(String[] args) {
        String[][] settings = {Refusal.NEW, Refusal.STANDS, Refusal.FULL, gone(Refusal.STANDS), gone(Refusal.FULL)};
        for (String[] s : settings) {
            setting = s;
            shelves();
            wayAndPeople();
            comes();
            walks();
        }
        Due.end();
    }

    /** The same, gone as far as one gets by draws. */
    private static String[] gone(String[] from) {
        String[] calls = java.util.Arrays.copyOf(from, from.length + 2);
        calls[from.length] = "seed(" + new Random(4).nextInt() + ")";
        calls[from.length + 1] = "summer(9)";
        return calls;
    }

    /** The call with each choice of its arguments, each on an object of its own. */
    private static void each(String name, long[]... choices) {
        long all = 1;
        for (long[] c : choices) all *= c.length;
        for (long k = 0; k < all; k++) {
            StringBuilder call = new StringBuilder(name).append('(');
            long left = k;
            for (int i = 0; i < choices.length; i++) {
                call.append(i == 0 ? "" : ", ").append(choices[i][(int) (left % choices[i].length)]);
                left /= choices[i].length;
            }
            compare(call.append(')').toString());
        }
    }

    private static void compare(String call) {
        Run x = new Run().after(setting);
        Model model = new Model();
        for (String c : setting) Run.call(model, c);
        x.due(call, Run.call(model, call));
        for (int w = 0; w <= 20; w++) x.due("status(" + w + ")", model.call("status", w));
        x.due("fault()", model.call("fault")).due("next()", model.call("next")).due("trace(0)", model.call("trace", 0));
    }

    private static void shelves() {
        each("row", SHELVES, SMALL, COUNTS);
        each("set", SHELVES, COUNTS, new long[] {Long.MIN_VALUE, 7});
        each("copy", new long[] {-1, 0, 1, 2, 3, 4, 8}, new long[] {-1, 0, 1, 2, 3, 4, 8}, new long[] {-1, 0, 3, 5, Integer.MAX_VALUE},
            new long[] {-1, 0, 3, 5}, new long[] {-1, 0, 1, 3, Integer.MAX_VALUE});
        each("element", SHELVES, COUNTS);
        each("show", SHELVES, PEOPLE);
        each("holds", SHELVES);
        each("says", SHELVES, SMALL);
    }

    private static void wayAndPeople() {
        each("furlong", SMALL, new long[] {0, 1});
        each("person", SMALL, SMALL);
        each("furlongOf", FURLONGS, SMALL);
        each("personOf", PEOPLE, SMALL);
        each("ask", SMALL, SMALL);
        each("ask", new long[] {2}, TIRED);
        each("tire", PEOPLE, TIRED);
        each("bag", PEOPLE);
        each("way", SHELVES);
        each("load", PEOPLE, FURLONGS);
    }

    private static void comes() {
        each("may", SMALL);
        each("ahead", new long[] {-1, 0, 1, 2, 3, 5}, WHATS);
        each("by", SMALL, WHATS);
        each("best", SMALL);
        each("whose", FURLONGS);
        each("turn", SMALL, MINUTES);
        each("pays", SMALL);
        each("bagged", SMALL);
        each("enough");
        each("leastWorn", SMALL);
        each("act", PEOPLE, new long[] {-1, 0, 1, 2, 3}, XS);
    }

    private static void walks() {
        each("judge", SHELVES, COUNTS);
        each("behind", SHELVES, COUNTS, new long[] {-1, 0, 1, 2, 3, 4});
        each("done", SHELVES, COUNTS);
        each("fits", SHELVES);
        each("does", SMALL);
        each("summer", COUNTS);
        each("day");
        each("seed", XS);
        each("image");
        each("restore");
        each("status", new long[] {-1, 0, 20, 21, Integer.MIN_VALUE, Integer.MAX_VALUE});
    }
}
