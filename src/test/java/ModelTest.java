import java.util.Random;

/** Runs of calls by draws, each answer compared with the model's. */
public final class ModelTest {
    private static final String[] NAMES = {
        "row", "set", "copy", "element", "show", "holds", "says", "furlong", "person", "furlongOf", "personOf",
        "ask", "tire", "bag", "way", "fault", "load", "may", "next", "ahead", "by", "best", "whose", "turn",
        "pays", "bagged", "judge", "behind", "done", "fits", "enough", "leastWorn", "does", "summer", "day",
        "seed", "act", "trace", "image", "restore", "status"};
    private static final String[] WORDS = {"up", "down", "stile", "person", "tired", "bag", "legs", "nap", "worn",
        "biscuits", "races", "act"};

    private static Random random;
    private static CarriedAsFarAsTheStile x;
    private static Model model;
    private static int run;
    private static int calls;

    private static long both(String name, long... a) {
        // What an object answers behind its 512th call is free.
        calls++;
        if (calls > 512) return 0;
        long want = model.call(name, a);
        StringBuilder told = new StringBuilder("run " + run + ": " + name + "(");
        for (int i = 0; i < a.length; i++) told.append(i == 0 ? "" : ", ").append(a[i]);
        Due.due(told.append(")").toString(), Run.call(x, name, a), want);
        return want;
    }

    /** From low to high mostly, a little beyond at times, and seldom far off. */
    private static int about(int low, int high) {
        int r = random.nextInt(40);
        if (r == 0) return low - 1;
        if (r == 1) return high + 1;
        if (r == 2) return new int[] {Integer.MIN_VALUE, Integer.MAX_VALUE, -100, 1000}[random.nextInt(4)];
        return low + random.nextInt(high - low + 1);
    }

    private static String text() {
        StringBuilder b = new StringBuilder();
        int items = 1 + random.nextInt(10);
        for (int i = 0; i < items; i++) {
            if (i > 0) b.append(';');
            String w = WORDS[random.nextInt(WORDS.length)];
            b.append(w);
            if (w.equals("stile")) continue;
            b.append(' ').append(number(w));
            if (w.equals("person") || w.equals("tired")) b.append(' ').append(number(w));
        }
        // One time in three something is amiss.
        if (random.nextInt(3) == 0) {
            int at = random.nextInt(b.length());
            String signs = "; 0123456789abdegilnoprstuwcx";
            char c = signs.charAt(random.nextInt(signs.length()));
            switch (random.nextInt(4)) {
                case 0: b.setCharAt(at, c); break;
                case 1: b.insert(at, c); break;
                case 2: b.deleteCharAt(at); break;
                default: b.setLength(at); break;
            }
        }
        if (b.length() > 160) b.setLength(160);
        return b.toString();
    }

    private static String number(String w) {
        int high = w.equals("up") || w.equals("down") ? 3 : w.equals("worn") ? 50 : w.equals("person") ? 6
            : w.equals("bag") || w.equals("tired") ? 4 : 9;
        int n = random.nextInt(high + 1);
        return random.nextInt(10) == 0 ? "0" + n : String.valueOf(n);
    }

    private static void tellText() {
        String t = text();
        int s = random.nextInt(8);
        int sort = random.nextInt(4);
        both("row", s, sort, t.length());
        for (int i = 0; i < t.length(); i++) {
            both("set", s, i, t.charAt(i) + (sort == 3 && random.nextInt(9) == 0 ? 1L << 32 + random.nextInt(20) : 0L));
        }
        both("way", s);
        both("fault");
    }

    private static void tellWalk() {
        int s = random.nextInt(8);
        int n = random.nextInt(8);
        both("row", s, random.nextInt(4), n + random.nextInt(2));
        // Mostly acts that may be, as the model has them.
        Model.State st = model.now.copy();
        for (int i = 0; i < n; i++) {
            int act = random.nextInt(10);
            for (int tries = 0; tries < 20 && !st.may(act); tries++) act = random.nextInt(10);
            both("set", s, i, act);
            if (st.may(act)) st = st.after(act);
        }
        both("judge", s, n);
        for (int w = 0; w < 4; w++) both("behind", s, n, w);
        if (random.nextBoolean()) both("done", s, n);
    }

    private static void tellTired() {
        int s = random.nextInt(8);
        int people = model.now.people.size();
        both("row", s, random.nextInt(4), people + random.nextInt(2));
        int rule = random.nextInt(4);
        for (int p = 0; p < people; p++) both("set", s, p, model.call("by", rule, 10 + p) + (random.nextInt(9) == 0 ? 1 : 0));
        both("fits", s);
    }

    private static void anyCall() {
        String name = NAMES[random.nextInt(NAMES.length)];
        switch (name) {
            case "row": both(name, about(0, 7), about(0, 3), about(0, random.nextInt(5) == 0 ? 160 : 9)); break;
            case "set": both(name, about(0, 7), about(0, 9), random.nextInt(3) == 0 ? random.nextLong() : about(0, 9)); break;
            case "copy": both(name, about(0, 7), about(0, 7), about(0, 4), about(0, 4), about(0, 5)); break;
            case "element": both(name, about(0, 7), about(0, 9)); break;
            case "show": both(name, about(0, 7), about(-1, 5)); break;
            case "says": both(name, about(0, 7), about(0, 6)); break;
            case "furlong": both(name, about(-3, 3), random.nextInt(2)); break;
            case "person": both(name, about(0, 6), about(0, 9)); break;
            case "furlongOf": both(name, about(0, 23), about(0, 1)); break;
            case "personOf": both(name, about(0, 5), about(0, 3)); break;
            case "ask": {
                int what = about(0, 4);
                both(name, what, about(what < 3 ? 1 : 0, what == 2 ? 99 : 9));
                break;
            }
            case "tire": both(name, about(0, 5), about(0, random.nextInt(3) == 0 ? 99 : 20)); break;
            case "bag": both(name, about(-1, 5)); break;
            case "load": both(name, about(0, 5), about(0, 23)); break;
            case "may": case "does": both(name, about(0, 9)); break;
            case "ahead": both(name, about(1, random.nextInt(8) == 0 ? 4 : 3), about(-1, 6)); break;
            case "by": both(name, about(0, 3), random.nextBoolean() ? about(0, 3) : about(10, 15)); break;
            case "best": both(name, about(0, 1)); break;
            case "whose": both(name, about(0, 23)); break;
            case "turn": both(name, about(0, 3), about(0, 500)); break;
            case "pays": case "bagged": case "leastWorn": both(name, about(0, 3)); break;
            case "judge": case "done": both(name, about(0, 7), about(0, 9)); break;
            case "behind": both(name, about(0, 7), about(0, 9), about(0, 3)); break;
            case "holds": case "way": case "fits": both(name, about(0, 7)); break;
            case "summer": both(name, about(1, random.nextInt(4) == 0 ? 60 : 4)); break;
            case "seed": both(name, random.nextInt()); break;
            case "act": both(name, about(0, 5), about(0, 2), random.nextInt(3) == 0 ? random.nextInt() : about(-9, 99)); break;
            case "trace": both(name, about(0, 21)); break;
            case "status": both(name, about(0, 20)); break;
            case "day": if (random.nextInt(2) == 0) both(name); break;
            default: both(name); break;
        }
    }

    private static void wholeFace() {
        for (int w = -1; w <= 21; w++) both("status", w);
        for (int p = 0; p < 6; p++) for (int w = 0; w < 4; w++) both("personOf", p, w);
        for (int f = 0; f < 24; f++) for (int w = 0; w < 2; w++) both("furlongOf", f, w);
        for (int s = 0; s < 8; s++) {
            both("holds", s);
            for (int i = 0; i < 10; i++) both("element", s, i);
        }
        both("next");
    }

    private static void judgements() {
        for (int r = 0; r < 4; r++) {
            for (int w = 0; w < 4; w++) both("by", r, w);
            for (int p = 0; p < 6; p++) both("by", r, 10 + p);
            both("turn", r, random.nextInt(400));
            both("pays", r);
            both("bagged", r);
            both("leastWorn", r);
        }
        both("best", 0);
        both("best", 1);
        both("enough");
        int n = 1 + random.nextInt(4);
        for (int w = -1; w <= 6; w++) both("ahead", n, w);
    }

    public static void main(String[] args) {
        int runs = args.length > 0 ? Integer.parseInt(args[0]) : 600;
        for (run = 0; run < runs && Due.wrong() == 0; run++) {
            random = new Random(run);
            x = new CarriedAsFarAsTheStile();
            model = new Model();
            calls = 0;
            if (random.nextInt(3) > 0) {
                int furlongs = random.nextInt(25);
                int people = random.nextInt(7);
                for (int f = 0; f < furlongs; f++) both("furlong", random.nextInt(7) - 3, random.nextInt(2));
                for (int p = 0; p < people; p++) both("person", random.nextInt(7), random.nextInt(10));
                both("ask", 1, 1 + random.nextInt(4));
                both("ask", 2, 1 + random.nextInt(40));
            }
            int steps = 10 + random.nextInt(90);
            for (int i = 0; i < steps && calls < 260; i++) {
                switch (random.nextInt(40)) {
                    case 0: tellText(); break;
                    case 1: tellWalk(); break;
                    case 2: tellTired(); break;
                    default: anyCall(); break;
                }
            }
            judgements();
            wholeFace();
        }
        Due.end();
    }
}
