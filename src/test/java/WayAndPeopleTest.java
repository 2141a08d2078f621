/** Promises 9 to 15 and 18: furlongs, people, what is asked of them, and their loads. */
public final class WayAndPeopleTest {
    private static final int NONE = CarriedAsFarAsTheStile.NONE;

    public static void main(String[] args) {
        furlong();
        person();
        ask();
        tire();
        bag();
        load();
        Due.end();
    }

    /** Promises 9 and 11. */
    private static void furlong() {
        CarriedAsFarAsTheStile x = new CarriedAsFarAsTheStile();
        for (int f = 0; f < 24; f++) Due.due("furlong " + f, x.furlong(f % 7 - 3, f % 2 == 0), f);
        Due.due("a furlong too many", x.furlong(0, true), -7);
        Due.due("slope first", x.furlong(4, true), -6);
        Due.due("furlong(-4, true)", x.furlong(-4, true), -6);
        for (int f = 0; f < 24; f++) {
            Due.due("slope of " + f, x.furlongOf(f, 0), f % 7 - 3);
            Due.due("stile of " + f, x.furlongOf(f, 1), f % 2 == 0 ? 1 : 0);
        }
        Due.due("furlongOf(24, 0)", x.furlongOf(24, 0), -15);
        Due.due("furlongOf(-1, 0)", x.furlongOf(-1, 0), -15);
        Due.due("furlongOf(0, 2)", x.furlongOf(0, 2), -15);
        Due.due("furlongOf(0, -1)", x.furlongOf(0, -1), -15);
        Due.refusals("furlong", x, 0, 0, 0, 0, 4, 2, 1);
    }

    /** Promises 10 and 12. */
    private static void person() {
        CarriedAsFarAsTheStile x = new CarriedAsFarAsTheStile();
        Due.due("person(7, 10)", x.person(7, 10), -1);
        Due.due("person(-1, 0)", x.person(-1, 0), -1);
        Due.due("person(0, 10)", x.person(0, 10), -6);
        Due.due("person(0, -1)", x.person(0, -1), -6);
        for (int p = 0; p < 6; p++) Due.due("person " + p, x.person(p + 1, 9 - p), p);
        Due.due("a person too many", x.person(0, 0), -7);
        Due.due("a first", x.person(0, 10), -6);
        x.tire(2, 33);
        x.bag(4);
        for (int p = 0; p < 6; p++) {
            Due.due("kind of " + p, x.personOf(p, 0), p + 1);
            Due.due("a of " + p, x.personOf(p, 1), 9 - p);
            Due.due("tired of " + p, x.personOf(p, 2), p == 2 ? 33 : 0);
            Due.due("bag of " + p, x.personOf(p, 3), p == 4 ? 1 : 0);
        }
        Due.due("personOf(6, 0)", x.personOf(6, 0), -5);
        Due.due("personOf(-1, 0)", x.personOf(-1, 0), -5);
        Due.due("personOf(0, 4)", x.personOf(0, 4), -5);
        Due.due("personOf(0, -1)", x.personOf(0, -1), -5);
        Due.refusals("person", x, 2, 0, 0, 0, 4, 3, 1);
    }

    /** Promise 13. */
    private static void ask() {
        CarriedAsFarAsTheStile x = new CarriedAsFarAsTheStile();
        int[] was = {3, 4, 20, 2, 1};
        int[] low = {1, 1, 1, 0, 0};
        int[] high = {9, 9, 99, 9, 9};
        for (int w = 0; w < 5; w++) {
            Due.due("ask " + w + " for too little", x.ask(w, low[w] - 1), -6);
            Due.due("ask " + w + " for too much", x.ask(w, high[w] + 1), -6);
            Due.due("ask " + w + " for the most", x.ask(w, high[w]), was[w]);
            Due.due("status tells the most of " + w, x.status(6 + w), high[w]);
            Due.due("ask " + w + " for the least", x.ask(w, low[w]), high[w]);
            Due.due("status tells the least of " + w, x.status(6 + w), low[w]);
        }
        Due.due("LEGS are MOST at most", x.status(4), 1);
        x.ask(0, 5);
        Due.due("and grow by no asking", x.status(4), 1);
        Due.due("ask(5, 1)", x.ask(5, 1), -6);
        Due.due("ask(-1, 1)", x.ask(-1, 1), -6);
        Due.refusals("ask", x, 0, 0, 0, 0, 0, 12, 0);
    }

    /** Promise 14. */
    private static void tire() {
        CarriedAsFarAsTheStile x = Due.told("person 0 0;person 0 0");
        Due.due("tire(1, 99)", x.tire(1, 99), 0);
        Due.due("tire(1, 0)", x.tire(1, 0), 99);
        Due.due("tire(2, 100)", x.tire(2, 100), -1);
        Due.due("tire(-1, 0)", x.tire(-1, 0), -1);
        Due.due("tire(0, 100)", x.tire(0, 100), -6);
        Due.due("tire(0, -1)", x.tire(0, -1), -6);
        Due.due("tired of 0", x.personOf(0, 2), 0);
        Due.refusals("tire", x, 2, 0, 0, 0, 0, 2, 0);
    }

    /** Promise 15. */
    private static void bag() {
        CarriedAsFarAsTheStile x = Due.told("person 0 0;person 0 0");
        Due.due("bag(1)", x.bag(1), NONE);
        Due.due("bag(0)", x.bag(0), 1);
        Due.due("bag(2)", x.bag(2), -11);
        Due.due("bag(-2)", x.bag(-2), -11);
        Due.due("bag(NONE)", x.bag(NONE), 0);
        Due.due("bag(0) again", x.bag(0), NONE);
        Due.refusals("bag", x, 2, 0, 0, 0, 0, 0, 0);
    }

    /** Promise 18. */
    private static void load() {
        CarriedAsFarAsTheStile x = Due.told("up 0;up 3;down 3;person 0 0;person 1 0;person 2 0;person 3 0;person 4 0;person 5 0");
        int[] flat = {4, 3, 5, 2, 6, 4};
        int[] down = {1, 1, 2, 1, 3, 1};
        int[] downWithBag = {3, 2, 4, 1, 5, 3};
        for (int p = 0; p < 6; p++) {
            x.tire(p, 99);
            Due.due("load flat of " + p, x.load(p, 0), flat[p]);
            Due.due("load up 3 of " + p, x.load(p, 1), flat[p] + 3);
            Due.due("load down 3 of " + p, x.load(p, 2), down[p]);
            x.bag(p);
            Due.due("load down 3 with the BAG of " + p, x.load(p, 2), downWithBag[p]);
            x.bag(NONE);
        }
        Due.due("load(6, 9)", x.load(6, 9), -1);
        Due.due("load(-1, 0)", x.load(-1, 0), -1);
        Due.due("load(0, 3)", x.load(0, 3), -5);
        Due.due("load(0, -1)", x.load(0, -1), -5);
        Due.refusals("load", x, 2, 0, 0, 0, 2, 0, 0);
        CarriedAsFarAsTheStile y = Due.told("up 0;person 6 0");
        int[] tired = {0, 9, 10, 19, 20, 99};
        int[] load = {6, 6, 7, 7, 8, 15};
        for (int i = 0; i < tired.length; i++) {
            y.tire(0, tired[i]);
            Due.due("load of GRAN as tired as " + tired[i], y.load(0, 0), load[i]);
        }
    }
}
