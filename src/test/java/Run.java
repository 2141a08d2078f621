/** One object, its calls told as texts like "row(0, 1, 2)", and no more of them than the document promises. */
final class Run {
    private static final int PROMISED = 512;
    private final CarriedAsFarAsTheStile x = new CarriedAsFarAsTheStile();
    private int calls = 0;

    /** Calls one after another, whatever they answer. */
    Run after(String... told) {
        for (String call : told) answer(call);
        return this;
    }

    Run due(String call, long want) {
        Due.due(call, answer(call), want);
        return this;
    }

    /** Calls that differ by their last argument alone: "may(" with 0, 1, 2 and so on. */
    Run dueFrom0(String beginning, long... want) {
        for (int i = 0; i < want.length; i++) due(beginning + i + ")", want[i]);
        return this;
    }

    /** A text as a row of a sort. */
    Run text(int s, int sort, String text) {
        answer("row(" + s + ", " + sort + ", " + text.length() + ")");
        for (int i = 0; i < text.length(); i++) answer("set(" + s + ", " + i + ", " + (int) text.charAt(i) + ")");
        return this;
    }

    /** Numbers as a row of a sort. */
    Run numbers(int s, int sort, long... numbers) {
        answer("row(" + s + ", " + sort + ", " + numbers.length + ")");
        for (int i = 0; i < numbers.length; i++) answer("set(" + s + ", " + i + ", " + numbers[i] + ")");
        return this;
    }

    /** Tells a text, by shelf 7, which holds nothing then. */
    Run told(String text) {
        text(7, 0, text);
        Due.due("way of \"" + text + "\"", answer("way(7)"), text.split(";", -1).length);
        return after("show(7, NONE)");
    }

    /** As many furlongs of a slope as are wanted. */
    Run furlongs(int n, int slope, boolean stile) {
        for (int i = 0; i < n; i++) answer("furlong(" + slope + ", " + (stile ? 1 : 0) + ")");
        return this;
    }

    /** One call over and over. */
    Run times(int n, String call) {
        for (int i = 0; i < n; i++) answer(call);
        return this;
    }

    long answer(String call) {
        calls++;
        if (calls > PROMISED) throw new IllegalStateException("more calls than are promised");
        return call(x, name(call), arguments(call));
    }

    /** The model's answer to a call told as a text. */
    static long call(Model model, String call) {
        return model.call(name(call), arguments(call));
    }

    private static String name(String call) {
        return call.substring(0, call.indexOf('('));
    }

    private static long[] arguments(String call) {
        String inside = call.substring(call.indexOf('(') + 1, call.length() - 1);
        String[] told = inside.isEmpty() ? new String[0] : inside.split(", ");
        long[] arguments = new long[told.length];
        for (int i = 0; i < told.length; i++) arguments[i] = number(told[i]);
        return arguments;
    }

    private static long number(String told) {
        switch (told) {
            case "NONE": return CarriedAsFarAsTheStile.NONE;
            case "MIN": return Integer.MIN_VALUE;
            case "MAX": return Integer.MAX_VALUE;
            default: return Long.parseLong(told);
        }
    }

    /** A call by its name; a boolean is told by 1 or 0. */
    static long call(CarriedAsFarAsTheStile x, String name, long... l) {
        int[] a = new int[5];
        for (int i = 0; i < l.length; i++) a[i] = (int) l[i];
        switch (name) {
            case "row": return x.row(a[0], a[1], a[2]);
            case "set": return x.set(a[0], a[1], l[2]);
            case "copy": return x.copy(a[0], a[1], a[2], a[3], a[4]);
            case "element": return x.element(a[0], a[1]);
            case "show": return x.show(a[0], a[1]);
            case "holds": return x.holds(a[0]);
            case "says": return x.says(a[0], a[1]);
            case "furlong": return x.furlong(a[0], a[1] != 0);
            case "person": return x.person(a[0], a[1]);
            case "furlongOf": return x.furlongOf(a[0], a[1]);
            case "personOf": return x.personOf(a[0], a[1]);
            case "ask": return x.ask(a[0], a[1]);
            case "tire": return x.tire(a[0], a[1]);
            case "bag": return x.bag(a[0]);
            case "way": return x.way(a[0]);
            case "fault": return x.fault();
            case "load": return x.load(a[0], a[1]);
            case "may": return x.may(a[0]);
            case "next": return x.next();
            case "ahead": return x.ahead(a[0], a[1]);
            case "by": return x.by(a[0], a[1]);
            case "best": return x.best(a[0]);
            case "whose": return x.whose(a[0]);
            case "turn": return x.turn(a[0], a[1]);
            case "pays": return x.pays(a[0]);
            case "bagged": return x.bagged(a[0]);
            case "judge": return x.judge(a[0], a[1]);
            case "behind": return x.behind(a[0], a[1], a[2]);
            case "done": return x.done(a[0], a[1]);
            case "fits": return x.fits(a[0]);
            case "enough": return x.enough();
            case "leastWorn": return x.leastWorn(a[0]);
            case "does": return x.does(a[0]);
            case "summer": return x.summer(a[0]);
            case "day": return x.day();
            case "seed": return x.seed(a[0]);
            case "act": return x.act(a[0], a[1], a[2]);
            case "trace": return x.trace(a[0]);
            case "image": return x.image();
            case "restore": return x.restore();
            case "status": return x.status(a[0]);
            default: throw new IllegalArgumentException(name);
        }
    }
}
