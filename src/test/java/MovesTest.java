/** Promises 38 and 39: moves of people, and the trace of their bodies. */
public final class MovesTest {
    private static final int NONE = CarriedAsFarAsTheStile.NONE;

    public static void main(String[] args) {
        CarriedAsFarAsTheStile x = Due.told("person 1 9;person 0 2;person 1 3;person 2 4;person 3 5;person 4 6");
        // Their numbers are m: 1 to 5; x is 7.
        moved(x, 1, 0, 7, 8, 10);
        moved(x, 1, 1, 7, 16, 11, 10);
        moved(x, 1, 2, 7, 16 ^ 6, 12, 11, 10, 10);
        moved(x, 2, 0, 7, 12, 20, 10);
        moved(x, 2, 1, 7, 24, 11, 20, 10);
        moved(x, 2, 2, 7, 24 ^ 9, 12, 11, 20, 10, 20, 10);
        moved(x, 3, 0, 7, 10, 10);
        moved(x, 3, 1, 7, 60, 30, 11, 10);
        moved(x, 3, 2, 7, 60 ^ 6, 12, 30, 11, 10, 10);
        moved(x, 4, 0, 7, 16, 20, 10);
        moved(x, 4, 1, 7, 34, 40, 11, 20, 10);
        moved(x, 4, 2, 7, 34 ^ 11, 12, 40, 11, 20, 10, 20, 10);
        moved(x, 5, 0, 7, 7, 51, 10);
        moved(x, 5, 1, 7, 14, 11, 51, 10);
        moved(x, 5, 2, 7, -(14 ^ 1), 50, 12, 11, 51, 10, 51, 10);
        CarriedAsFarAsTheStile y = Due.told("person 0 0;person 0 0;person 5 4;person 6 5");
        moved(y, 2, 0, 7, 9, 10);
        moved(y, 2, 1, 7, 54, 30, 11, 10);
        moved(y, 2, 2, 7, 54 ^ 5 ^ 5, 60, 12, 30, 11, 10, 10);
        // GRAN lifts x twice over; her steps are those of x - 5, doubled.
        moved(y, 3, 0, 7, 14, 70, 51, 10);
        moved(y, 3, 1, 7, 8, 71, 11, 70, 51, 10);
        moved(y, 3, 2, 7, -(8 ^ 4), 50, 12, 71, 11, 70, 51, 10, 70, 51, 10);
        wrapping(y);
        noSuch(y);
        Due.end();
    }

    private static void moved(CarriedAsFarAsTheStile x, int person, int move, int v, int want, int... trace) {
        String call = "act(" + person + ", " + move + ", " + v + ")";
        Due.due(call, x.act(person, move, v), want);
        Due.due(call + ": bodies", x.status(19), trace.length);
        for (int i = 0; i < trace.length; i++) Due.due(call + ": trace(" + i + ")", x.trace(i), trace[i]);
        for (int i = trace.length; i < 22; i++) Due.due(call + ": trace(" + i + ")", x.trace(i), NONE);
        Due.due(call + ": trace(-1)", x.trace(-1), NONE);
        Due.due(call + ": trace(MAX)", x.trace(Integer.MAX_VALUE), NONE);
    }

    private static void wrapping(CarriedAsFarAsTheStile y) {
        moved(y, 1, 0, Integer.MAX_VALUE, Integer.MIN_VALUE, 10);
        moved(y, 1, 1, Integer.MAX_VALUE, 0, 11, 10);
        moved(y, 3, 0, Integer.MIN_VALUE, 0, 70, 51, 10);
    }

    private static void noSuch(CarriedAsFarAsTheStile y) {
        int[][] no = {{4, 0}, {-1, 0}, {0, 3}, {0, -1}, {Integer.MAX_VALUE, 1}, {1, Integer.MIN_VALUE}};
        for (int[] pm : no) {
            y.act(3, 2, 7);
            Due.due("act of no such", y.act(pm[0], pm[1], 7), 0);
            Due.due("no bodies", y.status(19), 0);
            Due.due("no trace", y.trace(0), NONE);
        }
        Due.refusals("act", y, 0, 0, 0, 0, 0, 0, 0);
    }
}
