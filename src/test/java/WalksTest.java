/** Promises 28 to 31: told walks judged, behind them, done, and rows of how tired all were. */
public final class WalksTest {
    private static final int NONE = CarriedAsFarAsTheStile.NONE;
    private static final String WAY = "up 0;up 1;stile;up 0;person 0 0;person 3 0;tired 1 8";

    public static void main(String[] args) {
        judge();
        judgeAtTheEnd();
        behind();
        done();
        sixtyAtMost();
        longs();
        refused();
        fits();
        Due.end();
    }

    /** Promise 28. */
    private static void judge() {
        CarriedAsFarAsTheStile x = Due.told(WAY);
        Due.numbers(x, 0, 0, 6, 9, 1, 9);
        Due.due("the whole walk", x.judge(0, 5), 4);
        Due.due("but for its last act", x.judge(0, 4), NONE);
        Due.due("none of it", x.judge(0, 0), NONE);
        Due.numbers(x, 0, 6, 2, 6);
        Due.due("nobody such", x.judge(0, 3), 1);
        Due.due("behind the first", x.judge(0, 1), NONE);
        Due.numbers(x, 0, 10);
        Due.due("no such act", x.judge(0, 1), 0);
        Due.numbers(x, 0, -1);
        Due.due("an act below 0", x.judge(0, 1), 0);
        Due.due("nothing is changed", x.status(2) + x.status(3), 0);
        Due.refusals("judge", x, 0, 0, 0, 0, 0, 0, 0);
    }

    private static void judgeAtTheEnd() {
        CarriedAsFarAsTheStile x = Due.told("up 0;stile");
        Due.numbers(x, 0, 6, 9, 9, 6);
        Due.due("rests at the end's stile, and no furlong more", x.judge(0, 4), 3);
        x.does(6);
        Due.due("she can't walk now", x.judge(0, 1), 0);
    }

    /** Promise 29. */
    private static void behind() {
        CarriedAsFarAsTheStile x = Due.told(WAY);
        Due.numbers(x, 0, 0, 6, 9, 1);
        int[][] want = {{0, 0, 8, 3}, {1, 7, 5, 3}, {2, 17, 2, 2}, {2, 27, 0, 3}, {3, 34, 2, 3}};
        for (int n = 0; n <= 4; n++) {
            for (int w = 0; w < 4; w++) Due.due("behind " + n + ", " + w, x.behind(0, n, w), want[n][w]);
        }
        CarriedAsFarAsTheStile nobody = Due.told("up 0");
        Due.numbers(nobody, 0, 6);
        Due.due("TIRED of nobody", nobody.behind(0, 1, 2), 0);
        Due.due("nothing is changed", x.status(2) + x.status(3), 0);
    }

    /** Promise 30. */
    private static void done() {
        CarriedAsFarAsTheStile x = Due.told(WAY);
        Due.numbers(x, 0, 0, 6, 9, 1, 1);
        Due.due("a wrong walk", x.done(0, 5), -6);
        Due.due("changes nothing", x.status(2) + x.status(3), 0);
        Due.due("a walk of two", x.done(0, 2), 2);
        Due.due("MINUTES", x.status(3), 17);
        Due.due("LEGS", x.status(4), 2);
        Due.due("TIRED of 0", x.personOf(0, 2), 2);
        Due.due("TIRED of 1", x.personOf(1, 2), 2);
        Due.due("a walk of none", x.done(0, 0), 2);
        Due.numbers(x, 0, 7);
        Due.due("from HERE on", x.done(0, 1), 3);
        Due.due("a BISCUIT is gone", x.status(9), 1);
    }

    private static void sixtyAtMost() {
        CarriedAsFarAsTheStile x = new CarriedAsFarAsTheStile();
        x.row(0, 0, 61);
        for (int i = 0; i < 61; i++) x.set(0, i, 9);
        Due.due("judge 60", x.judge(0, 60), NONE);
        Due.due("judge 61", x.judge(0, 61), -16);
        Due.due("behind 60", x.behind(0, 60, 1), 600);
        Due.due("behind 61", x.behind(0, 61, 1), -6);
        Due.due("behind 61, of another what", x.behind(0, 61, 4), -5);
        Due.due("done 61", x.done(0, 61), -6);
        Due.due("done 60", x.done(0, 60), 0);
        Due.due("MINUTES", x.status(3), 600);
        Due.due("judge 62 of 61", x.judge(0, 62), -15);
        Due.due("a walk into the night", x.judge(0, 60), 31);
        Due.refusals("sixty", x, 0, 0, 0, 0, 2, 3, 0);
    }

    /** Elements of longs count by their lowest 32 bits. */
    private static void longs() {
        CarriedAsFarAsTheStile x = Due.told("up 0;person 0 0");
        x.row(0, 3, 2);
        x.set(0, 0, (7L << 32) + 9);
        x.set(0, 1, (1L << 40) + 6);
        Due.due("judge longs", x.judge(0, 2), NONE);
        Due.due("behind longs", x.behind(0, 2, 1), 19);
        x.row(1, 3, 1);
        x.set(1, 0, (1L << 32) + 4);
        Due.due("fits of longs", x.fits(1), 3);
        Due.due("done of longs", x.done(0, 2), 1);
    }

    private static void refused() {
        CarriedAsFarAsTheStile x = Due.told("person 0 0");
        x.show(1, 0);
        x.row(2, 0, 2);
        int[][] asked = {{8, -1}, {-1, -1}, {1, -1}, {3, -1}, {2, -1}, {2, 3}, {2, 61}};
        int[] why = {1, 1, 2, 3, 4, 5, 5};
        for (int i = 0; i < why.length; i++) {
            int s = asked[i][0];
            int n = asked[i][1];
            String of = "(" + s + ", " + n + ")";
            Due.due("judge" + of, x.judge(s, n), -10 - why[i]);
            Due.due("behind" + of, x.behind(s, n, 9), -why[i]);
            Due.due("done" + of, x.done(s, n), -why[i]);
        }
        Due.refusals("walks", x, 6, 3, 3, 3, 6, 0, 0);
        Due.due("behind, another what ahead of a wrong walk", x.behind(2, 1, -1), -5);
        Due.due("behind, a wrong walk", x.behind(2, 1, 3), -6);
        Due.due("done, a wrong walk", x.done(2, 1), -6);
        Due.refusals("walks", x, 6, 3, 3, 3, 7, 2, 0);
    }

    /** Promise 31. */
    private static void fits() {
        CarriedAsFarAsTheStile x = Due.told("up 0;up 0;person 0 0;person 0 0");
        // Turns: 8, 0; fresh: 2, 4; legs and coax: 0, 0.
        int[][] rows = {{8, 0}, {2, 4}, {0, 0}, {8, 1}, {4, 2}};
        int[] bits = {1, 2, 12, 0, 0};
        for (int i = 0; i < rows.length; i++) {
            Due.numbers(x, 0, rows[i]);
            Due.due("fits row " + i, x.fits(0), bits[i]);
        }
        Due.numbers(x, 0, 2, 4, 77);
        Due.due("more elements than people", x.fits(0), 2);
        x.show(1, 0);
        x.row(2, 0, 1);
        Due.due("fits(8)", x.fits(8), -1);
        Due.due("fits(-1)", x.fits(-1), -1);
        Due.due("fits of a person", x.fits(1), -2);
        Due.due("fits of nothing", x.fits(3), -3);
        Due.due("fewer elements than people", x.fits(2), -5);
        Due.refusals("fits", x, 2, 1, 1, 0, 1, 0, 0);
        CarriedAsFarAsTheStile nobody = Due.told("up 0");
        nobody.row(0, 0, 0);
        Due.due("without people all rules fit", nobody.fits(0), 15);
    }
}
