import java.util.ArrayList;
import java.util.List;

/** A refused call beside an object on which it was not made: the answer, one count more, and nothing else. */
final class Refusal {
    /** A new object: nobody, no furlongs, shelves that hold nothing, no image. */
    static final String[] NEW = {};

    /**
     * Five furlongs, four people, an image, a rest that may be; shelves with a told walk (0) that is wrong at 1, ints
     * (1), none of them (2), GRAN (3), nothing (4), 61 bytes (5), FATHER (6) and two longs (7); a fault, a trace, and
     * refusals of each number.
     */
    static final String[] STANDS = {
        "furlong(1, 0)", "furlong(0, 1)", "furlong(2, 0)", "furlong(-3, 1)", "furlong(0, 0)",
        "person(0, 3)", "person(3, 4)", "person(6, 5)", "person(5, 6)",
        "bag(0)", "image()",
        "tire(0, 5)", "tire(1, 9)", "tire(2, 12)", "tire(3, 1)", "bag(1)",
        "ask(0, 5)", "ask(1, 2)", "ask(2, 33)", "ask(3, 4)", "ask(4, 3)", "seed(77)", "does(0)", "does(6)",
        "row(0, 0, 3)", "set(0, 0, 6)", "set(0, 1, 9)", "set(0, 2, 1)",
        "row(1, 2, 5)", "set(1, 0, 3)", "set(1, 1, 1)", "set(1, 2, 4)", "set(1, 3, 1)", "set(1, 4, 5)",
        "row(2, 2, 0)", "show(3, 2)", "row(5, 0, 61)", "show(6, 1)", "row(7, 3, 2)", "set(7, 0, 120)",
        "act(2, 2, 7)", "way(7)",
        "row(8, 0, 0)", "set(3, 0, 1)", "set(4, 0, 1)", "row(0, 0, -1)", "set(0, 9, 0)", "may(10)", "row(0, 0, 161)",
    };

    /** No room for a furlong or a person more. */
    static final String[] FULL = full();

    private Refusal() {
    }

    private static String[] full() {
        List<String> calls = new ArrayList<>();
        for (int f = 0; f < 24; f++) calls.add("furlong(" + (f % 7 - 3) + ", " + f % 2 + ")");
        for (int p = 0; p < 6; p++) calls.add("person(" + p + ", " + (9 - p) + ")");
        calls.add("image()");
        calls.add("show(0, 5)");
        calls.add("row(1, 1, 160)");
        return calls.toArray(new String[0]);
    }

    /** Each call refused alone, by an object of its own; -11 to -17 count as -1 to -7. */
    static void due(String[] setting, int answer, String... calls) {
        for (String call : calls) one(setting, call, answer);
    }

    private static void one(String[] setting, String call, int answer) {
        Run x = new Run().after(setting);
        Run y = new Run().after(setting);
        x.due(call, answer);
        int counted = 10 + (answer < -10 ? -answer - 10 : -answer);
        // A refused way() tells its fault.
        boolean faultTold = call.startsWith("way(") && answer == -6;
        same(call, x, y, counted, !faultTold);
    }

    /** Calls that are asked of one object, and change nothing, not even counts. */
    static void changesNothing(String[] setting, String... calls) {
        Run x = new Run().after(setting).after(calls);
        same("all that is asked", x, new Run().after(setting), -1, true);
    }

    private static void same(String call, Run x, Run y, int counted, boolean withFault) {
        long furlongs = y.answer("status(1)");
        long people = y.answer("status(0)");
        List<String> tells = new ArrayList<>();
        for (int w = 0; w <= 20; w++) tells.add("status(" + w + ")");
        tellWay(tells, people, furlongs);
        for (int s = 0; s < 8; s++) {
            tells.add("holds(" + s + ")");
            for (int i = 0; i < 6; i++) tells.add("element(" + s + ", " + i + ")");
        }
        for (int i = 0; i < 11; i++) tells.add("trace(" + i + ")");
        if (withFault) tells.add("fault()");
        // As long as they were: by 61 and 0 elements, the others by theirs above.
        tells.add("copy(5, 5, 61, 61, 0)");
        tells.add("copy(5, 5, 62, 0, 0)");
        tells.add("copy(2, 2, 1, 0, 0)");
        for (String tell : tells) {
            int more = tell.equals("status(" + counted + ")") ? 1 : 0;
            Due.due(call + ", then " + tell, x.answer(tell), y.answer(tell) + more);
        }
        image(call, x, y);
    }

    private static void image(String call, Run x, Run y) {
        Due.due(call + ", then restore()", x.answer("restore()"), y.answer("restore()"));
        List<String> tells = new ArrayList<>();
        for (int w = 0; w <= 10; w++) tells.add("status(" + w + ")");
        tells.add("status(18)");
        tellWay(tells, y.answer("status(0)"), Math.min(6, y.answer("status(1)")));
        for (String tell : tells) Due.due(call + ", then restored " + tell, x.answer(tell), y.answer(tell));
    }

    private static void tellWay(List<String> tells, long people, long furlongs) {
        for (int p = 0; p < people; p++) for (int w = 0; w < 4; w++) tells.add("personOf(" + p + ", " + w + ")");
        for (int f = 0; f < furlongs; f++) for (int w = 0; w < 2; w++) tells.add("furlongOf(" + f + ", " + w + ")");
    }
}
