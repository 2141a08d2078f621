/** Promises 35 and 37: summers by draws, and their seed. */
public final class SummerTest {
    public static void main(String[] args) {
        seed();
        draws();
        byHand();
        noDraw();
        rests();
        refused();
        Due.end();
    }

    /** Promise 37. */
    private static void seed() {
        CarriedAsFarAsTheStile x = new CarriedAsFarAsTheStile();
        int[] seeds = {0, -1, Integer.MIN_VALUE, Integer.MAX_VALUE, 1};
        int was = 1;
        for (int v : seeds) {
            Due.due("seed(" + v + ")", x.seed(v), was);
            Due.due("status tells it", x.status(18), v);
            was = v;
        }
    }

    /** Promise 35: of those that MAY be that whose number is the draw. */
    private static void draws() {
        for (int seed = -40; seed < 40; seed++) {
            CarriedAsFarAsTheStile x = Due.told("up 0;up 0;up 0;up 0;up 0;person 0 0;person 6 0;person 2 0;nap 2");
            CarriedAsFarAsTheStile y = Due.told("up 0;up 0;up 0;up 0;up 0;person 0 0;person 6 0;person 2 0;nap 2");
            x.seed(seed * 77777777);
            int s = seed * 77777777;
            for (int i = 0; i < 6; i++) {
                int bits = y.next();
                if (bits != 0) {
                    s = s * 1103515245 + 12345;
                    int left = (s >>> 16) % Integer.bitCount(bits);
                    int act = 0;
                    while ((bits >> act & 1) == 0 || left-- > 0) act++;
                    y.does(act);
                }
                int gone = x.status(2);
                Due.due("summer(1) " + i + " of seed " + seed, x.summer(1), y.status(2) - gone);
                Due.due("SEED", x.status(18), s);
                for (int w = 2; w <= 10; w++) Due.due("status(" + w + ")", x.status(w), y.status(w));
                for (int p = 0; p < 3; p++) Due.due("tired of " + p, x.personOf(p, 2), y.personOf(p, 2));
            }
        }
    }

    private static void byHand() {
        CarriedAsFarAsTheStile x = Due.told("up 0;person 0 0");
        // 1 becomes 1103527590: its upper bits are 16838, of 5 acts the number 3 is RACE.
        Due.due("summer(1)", x.summer(1), 1);
        Due.due("SEED", x.status(18), 1103527590);
        Due.due("a RACE is gone", x.status(10), 0);
        Due.due("BISCUITS stay", x.status(9), 2);
        Due.due("nobody carried", x.personOf(0, 2), 0);
    }

    private static void noDraw() {
        CarriedAsFarAsTheStile x = Due.told("up 0;act 6");
        Due.due("summer(60) where none MAY be", x.summer(60), 0);
        Due.due("no DRAW", x.status(18), 1);
        CarriedAsFarAsTheStile y = Due.told("up 0;up 0;up 0;legs 3;biscuits 0;races 0;act 6");
        y.seed(5);
        Due.due("those without a DRAW count, too", y.summer(5), 2);
        int s = 5;
        for (int i = 0; i < 2; i++) s = s * 1103515245 + 12345;
        Due.due("two draws", y.status(18), s);
    }

    private static void rests() {
        CarriedAsFarAsTheStile x = Due.told("up 0;stile;act 6");
        Due.due("rests at the end", x.summer(4), 0);
        Due.due("MINUTES", x.status(3), 49);
        int s = 1;
        for (int i = 0; i < 4; i++) s = s * 1103515245 + 12345;
        Due.due("a DRAW below 1 is a DRAW", x.status(18), s);
    }

    private static void refused() {
        CarriedAsFarAsTheStile x = Due.told("up 0");
        int[] no = {0, 61, -1, Integer.MIN_VALUE, Integer.MAX_VALUE};
        for (int n : no) Due.due("summer(" + n + ")", x.summer(n), -6);
        Due.refusals("summer", x, 0, 0, 0, 0, 0, no.length, 0);
        Due.due("no DRAW", x.status(18), 1);
        Due.due("summer(1) may be", x.summer(1) >= 0 ? 1 : 0, 1);
        Due.due("summer(60) may be", x.summer(60) >= 0 ? 1 : 0, 1);
    }
}
