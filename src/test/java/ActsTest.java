/** Promises 19, 20, 34, 36 and what acts do: carrying, walking, biscuits, races, rests, days. */
public final class ActsTest {
    private static final int NONE = CarriedAsFarAsTheStile.NONE;

    public static void main(String[] args) {
        may();
        mayCarry();
        next();
        carried();
        minutesOfCarrying();
        walked();
        biscuitsAndRaces();
        rests();
        restsAreOverAtNight();
        day();
        doesRefused();
        Due.end();
    }

    private static void stands(String when, CarriedAsFarAsTheStile x, int here, int minutes, int legs, int on) {
        Due.due(when + ": HERE", x.status(2), here);
        Due.due(when + ": MINUTES", x.status(3), minutes);
        Due.due(when + ": LEGS", x.status(4), legs);
        Due.due(when + ": ON", x.status(5), on);
    }

    private static void tired(String when, CarriedAsFarAsTheStile x, int... want) {
        for (int p = 0; p < want.length; p++) Due.due(when + ": tired of " + p, x.personOf(p, 2), want[p]);
    }

    /** Promise 19. */
    private static void may() {
        CarriedAsFarAsTheStile x = Due.told("up 0;up 0;up 0;person 0 0;nap 2;legs 1");
        int[] atFirst = {1, 0, 0, 0, 0, 0, 1, 1, 1, 1};
        for (int a = 0; a < 10; a++) Due.due("may(" + a + ") at first", x.may(a), atFirst[a]);
        Due.due("may(10)", x.may(10), -6);
        Due.due("may(-1)", x.may(-1), -6);
        Due.refusals("may", x, 0, 0, 0, 0, 0, 2, 0);
        x.does(6);
        Due.due("WALK without LEGS", x.may(6), 0);
        Due.due("BISCUIT without LEGS", x.may(7), 1);
        Due.due("RACE without LEGS", x.may(8), 1);
        Due.due("REST without a STILE", x.may(9), 0);
        x.ask(3, 0);
        x.ask(4, 0);
        Due.due("BISCUIT without one", x.may(7), 0);
        Due.due("RACE without one", x.may(8), 0);
        CarriedAsFarAsTheStile y = Due.told("up 0;up 0;up 0;person 0 0;nap 2;act 0;act 0");
        int[] asleep = {1, 0, 0, 0, 0, 0, 0, 0, 0, 0};
        for (int a = 0; a < 10; a++) Due.due("may(" + a + ") asleep", y.may(a), asleep[a]);
        Due.due("ASLEEP", y.status(20), 1);
        y.ask(1, 3);
        Due.due("awake by a longer NAP", y.status(20), 0);
    }

    private static void mayCarry() {
        CarriedAsFarAsTheStile x = Due.told("up 2;person 0 0;person 6 0;person 2 0;person 5 0;worn 8");
        x.tire(0, 2);
        Due.due("TIRED and LOAD as WORN", x.may(0), 1);
        x.tire(0, 3);
        Due.due("TIRED and LOAD above WORN", x.may(0), 0);
        x.tire(0, 1);
        x.bag(0);
        Due.due("with the BAG above WORN", x.may(0), 0);
        Due.due("GRAN up 2", x.may(1), 0);
        Due.due("STRANGE awake", x.may(2), 0);
        Due.due("UNCLE awake", x.may(3), 0);
        CarriedAsFarAsTheStile y = Due.told("up 0;up 1;up 2;up 0;person 6 0;person 2 0;person 5 0;nap 1");
        Due.due("GRAN flat", y.does(0), 1);
        Due.due("GRAN up 1", y.may(0), 1);
        Due.due("STRANGE asleep", y.may(1), 1);
        Due.due("UNCLE asleep", y.may(2), 1);
        y.does(2);
        Due.due("GRAN up 2 asleep", y.may(0), 0);
        y.does(1);
        y.does(1);
        for (int p = 0; p < 3; p++) Due.due("nobody carries beyond the end " + p, y.may(p), 0);
    }

    /** Promise 20. */
    private static void next() {
        CarriedAsFarAsTheStile x = new CarriedAsFarAsTheStile();
        Due.due("next of nothing", x.next(), 512);
        x.furlong(0, false);
        Due.due("next with a furlong", x.next(), 64 + 128 + 256 + 512);
        x.person(0, 0);
        x.person(2, 0);
        x.person(1, 0);
        Due.due("next with people", x.next(), 1 + 4 + 64 + 128 + 256 + 512);
        x.does(6);
        Due.due("next at the end", x.next(), 0);
        x.furlong(1, true);
        x.does(0);
        Due.due("next at the end with a stile", x.next(), 512);
    }

    /** Promise 34. */
    private static void carried() {
        CarriedAsFarAsTheStile x = Due.told("up 1;up 0;down 2;up 0;up 0;person 0 0;person 3 0;person 6 0;tired 1 2;tired 2 20;bag 2;worn 99;legs 5;biscuits 9");
        Due.due("carried once", x.does(0), 1);
        stands("carried once", x, 1, 8, 3, 1);
        tired("carried once", x, 5, 0, 19);
        Due.due("GRAN carries with the BAG", x.does(2), 2);
        stands("carried twice", x, 2, 14, 4, 2);
        // Her load: 4 and 2, a tenth of 19, and 2 for the BAG.
        tired("carried twice", x, 3, 0, 28);
        x.bag(1);
        x.tire(1, 9);
        Due.due("carried thrice", x.does(0), 3);
        stands("carried thrice", x, 3, 18, 4, 3);
        tired("who has the BAG rests 1 less", x, 5, 7, 26);
        Due.due("father with the BAG", x.does(1), 4);
        stands("carried four times", x, 4, 24, 5, 4);
        tired("father with the BAG", x, 3, 11, 24);
        x.ask(0, 4);
        x.does(0);
        stands("LEGS at MOST stay", x, 5, 30, 4, 5);
    }

    private static void minutesOfCarrying() {
        int[] first = {4, 5, 6, 7, 8, 9, 10};
        int[] second = {3, 4, 5, 6, 7, 8, 9};
        for (int slope = -3; slope <= 3; slope++) {
            CarriedAsFarAsTheStile x = new CarriedAsFarAsTheStile();
            x.furlong(slope, false);
            x.furlong(slope, false);
            x.person(0, 0);
            x.does(0);
            Due.due("minutes of the first, slope " + slope, x.status(3), first[slope + 3]);
            x.does(0);
            Due.due("minutes of the second, slope " + slope, x.status(3), first[slope + 3] + second[slope + 3]);
        }
    }

    private static void walked() {
        CarriedAsFarAsTheStile x = Due.told("up 0;down 3;up 2;person 0 0;person 3 0;person 4 0;tired 1 9;tired 2 1;act 0");
        tired("ahead", x, 4, 6, 0);
        x.bag(1);
        Due.due("walks", x.does(6), 2);
        stands("walked", x, 2, 13, 2, 0);
        tired("walked", x, 2, 4, 0);
        x.does(6);
        stands("walked up", x, 3, 24, 1, 0);
        tired("walked up", x, 0, 2, 0);
    }

    private static void biscuitsAndRaces() {
        CarriedAsFarAsTheStile x = Due.told("up 0;up 0;up 0;up 0;up 0;up 0;up 0;biscuits 3;races 2;legs 2;person 0 0;tired 0 7");
        x.does(7);
        stands("a BISCUIT", x, 1, 9, 3, 0);
        Due.due("BISCUITS", x.status(9), 2);
        tired("he rests", x, 5);
        x.does(7);
        stands("MOST and 2 at most", x, 2, 18, 3, 0);
        x.does(8);
        stands("a RACE", x, 3, 27, 3, 0);
        Due.due("RACES", x.status(10), 1);
        x.ask(0, 1);
        stands("asked for fewer", x, 3, 27, 1, 0);
        x.does(6);
        x.does(8);
        stands("a RACE without LEGS", x, 5, 45, 0, 0);
        x.does(7);
        stands("a BISCUIT without LEGS", x, 6, 54, 1, 0);
        Due.due("BISCUITS are gone", x.status(9), 0);
        Due.due("RACES are gone", x.status(10), 0);
        CarriedAsFarAsTheStile y = Due.told("up 0;up 0;up 0;up 0;stile;person 0 0;act 7");
        stands("a BISCUIT for fresh LEGS", y, 1, 9, 4, 0);
        y.does(0);
        y.does(0);
        stands("LEGS above MOST don't grow by carrying", y, 3, 22, 4, 2);
        y.does(8);
        stands("a RACE for LEGS above MOST", y, 4, 31, 4, 0);
        y.does(9);
        stands("LEGS above MOST stay by a REST", y, 4, 41, 4, 0);
    }

    private static void rests() {
        CarriedAsFarAsTheStile x = Due.told("up 0;up 0;stile;up 0;person 0 0;person 3 0;tired 0 5;tired 1 9;bag 1;legs 1");
        Due.due("a REST ahead of all", x.does(9), 0);
        stands("a REST", x, 0, 10, 1, 0);
        tired("all 6 less, whoever has the BAG", x, 0, 3);
        x.does(6);
        Due.due("no REST without a STILE", x.does(9), -6);
        x.does(0);
        stands("at the stile", x, 2, 10 + 9 + 7, 0, 1);
        Due.due("a REST at a STILE", x.does(9), 2);
        stands("LEGS are MOST", x, 2, 36, 1, 0);
        x.does(6);
        Due.due("no REST behind the STILE", x.may(9), 0);
    }

    private static void restsAreOverAtNight() {
        CarriedAsFarAsTheStile x = new CarriedAsFarAsTheStile();
        for (int i = 0; i <= 90; i++) Due.due("REST at " + 10 * i, x.does(9), 0);
        Due.due("MINUTES", x.status(3), 910);
        Due.due("REST above 900", x.does(9), -6);
        Due.due("next above 900", x.next(), 0);
        x.day();
        Due.due("REST on another day", x.may(9), 1);
        CarriedAsFarAsTheStile y = Due.told("up 2;stile;act 6");
        for (int i = 0; i < 89; i++) y.does(9);
        Due.due("MINUTES at the stile", y.status(3), 901);
        Due.due("REST at 901", y.may(9), 0);
    }

    /** Promise 36. */
    private static void day() {
        CarriedAsFarAsTheStile x = Due.told("up 0;up 0;up 0;person 0 0;person 3 0;bag 1;act 0;act 0;act 7;act 0;legs 5".replace(";act 0;legs", ";legs"));
        x.tire(1, 50);
        x.seed(9);
        Due.due("day()", x.day(), 3);
        stands("another day", x, 0, 0, 5, 0);
        tired("another day", x, 0, 0);
        Due.due("BISCUITS stay", x.status(9), 1);
        Due.due("RACES stay", x.status(10), 1);
        Due.due("BAG stays", x.personOf(1, 3), 1);
        Due.due("SEED stays", x.status(18), 9);
        Due.due("FURLONGS stay", x.status(1), 3);
        Due.due("day() again", x.day(), 0);
        x.does(7);
        stands("LEGS above MOST", x, 1, 9, 6, 0);
        x.day();
        stands("LEGS are MOST", x, 0, 0, 5, 0);
    }

    private static void doesRefused() {
        CarriedAsFarAsTheStile x = Due.told("up 0;person 2 0");
        int[] no = {0, 1, 5, 10, -1, Integer.MIN_VALUE, Integer.MAX_VALUE};
        for (int a : no) Due.due("does(" + a + ")", x.does(a), -6);
        Due.refusals("does", x, 0, 0, 0, 0, 0, no.length, 0);
        stands("nothing is changed", x, 0, 0, 3, 0);
        x.does(6);
        for (int a = 0; a < 10; a++) Due.due("does(" + a + ") at the end", x.does(a), -6);
    }
}
