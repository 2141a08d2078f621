import java.lang.management.ManagementFactory;
import java.util.Random;

/** Any call, whatever its arguments, answers; refused it changes nothing; and no call makes an object. */
public final class EveryCallTest {
    private static final String[] NAMES = {
        "row", "set", "copy", "element", "show", "holds", "says", "furlong", "person", "furlongOf", "personOf",
        "ask", "tire", "bag", "way", "fault", "load", "may", "next", "ahead", "by", "best", "whose", "turn",
        "pays", "bagged", "judge", "behind", "done", "fits", "enough", "leastWorn", "does", "summer", "day",
        "seed", "act", "trace", "image", "restore", "status"};
    private static final int[] VALUES = {Integer.MIN_VALUE, -1000, -17, -2, -1, 0, 1, 2, 3, 4, 5, 6, 7, 8, 9, 10,
        11, 15, 16, 23, 24, 60, 61, 99, 100, 160, 161, 1000, Integer.MAX_VALUE - 1, Integer.MAX_VALUE};

    public static void main(String[] args) {
        anyArguments();
        noObjects();
        Due.end();
    }

    /** Runs of any calls, and one call more beside an object on which it is not made. */
    private static void anyArguments() {
        for (int run = 0; run < 4000; run++) {
            int n = run % 230;
            CarriedAsFarAsTheStile x = runOf(run, n + 1);
            CarriedAsFarAsTheStile y = runOf(run, n);
            if (refused(x) != refused(y)) {
                Due.due("run " + run + ": a refusal counts once", refused(x), refused(y) + 1);
                Due.due("run " + run + ": it changes but the counts", told(x) == told(y) ? 1 : 0, 1);
            }
        }
        for (int run = 0; run < 300; run++) runOf(run, 512);
    }

    private static CarriedAsFarAsTheStile runOf(int run, int calls) {
        Random random = new Random(run);
        CarriedAsFarAsTheStile x = new CarriedAsFarAsTheStile();
        long[] a = new long[5];
        for (int i = 0; i < calls; i++) {
            String name = NAMES[random.nextInt(NAMES.length)];
            for (int k = 0; k < a.length; k++) {
                a[k] = random.nextInt(4) > 0 ? random.nextInt(8) : VALUES[random.nextInt(VALUES.length)];
            }
            Run.call(x, name, a);
        }
        return x;
    }

    private static int refused(CarriedAsFarAsTheStile x) {
        int all = 0;
        for (int w = 11; w <= 17; w++) all += x.status(w);
        return all;
    }

    /** All that tells how things stand, but the counts, the fault (which a refused way() tells) and acts ahead. */
    private static long told(CarriedAsFarAsTheStile x) {
        long all = 17;
        for (int w = 0; w <= 10; w++) all = all * 31 + x.status(w);
        for (int w = 18; w <= 20; w++) all = all * 31 + x.status(w);
        int people = x.status(0);
        int furlongs = x.status(1);
        for (int p = 0; p < people; p++) for (int w = 0; w < 4; w++) all = all * 31 + x.personOf(p, w);
        for (int f = 0; f < furlongs; f++) for (int w = 0; w < 2; w++) all = all * 31 + x.furlongOf(f, w);
        for (int s = 0; s < 8; s++) {
            all = all * 31 + x.holds(s);
            for (int i = 0; i < 12; i++) all = all * 31 + x.element(s, i);
        }
        for (int i = 0; i < 20; i++) all = all * 31 + x.trace(i);
        return all;
    }

    private static void noObjects() {
        com.sun.management.ThreadMXBean bean = (com.sun.management.ThreadMXBean) ManagementFactory.getThreadMXBean();
        CarriedAsFarAsTheStile x = Due.told("up 0;up 1;stile;up 2;up 0;stile;up 0;person 0 0;person 3 0;person 6 0;person 5 0;nap 2");
        Due.text(x, 0, 2, "biscuits 3;races 2;legs 9;nap 2");
        Due.numbers(x, 1, 0, 6, 9);
        useAll(x);
        long before = bean.getCurrentThreadAllocatedBytes();
        long calls = bean.getCurrentThreadAllocatedBytes();
        long ofAsking = calls - before;
        for (int i = 0; i < 6; i++) useAll(x);
        long made = bean.getCurrentThreadAllocatedBytes() - calls - ofAsking;
        // The least object takes 16 bytes: made each time it comes to more than what the machine may add.
        Due.due("objects made by calls", made >= 96 ? 1 : 0, 0);
    }

    private static void useAll(CarriedAsFarAsTheStile x) {
        x.row(2, 3, 160);
        x.set(2, 5, 6);
        x.copy(2, 2, 0, 1, 100);
        x.way(0);
        x.image();
        x.next();
        for (int n = 1; n <= 4; n++) x.ahead(n, 0);
        for (int rule = 0; rule < 4; rule++) {
            x.by(rule, 0);
            x.turn(rule, 100);
            x.pays(rule);
            x.bagged(rule);
            x.leastWorn(rule);
        }
        x.best(0);
        x.best(1);
        x.whose(0);
        x.enough();
        x.judge(1, 3);
        x.behind(1, 3, 1);
        x.done(1, 1);
        x.fits(2);
        x.summer(60);
        x.act(2, 2, 9);
        x.day();
        x.restore();
    }
}
