/** Promise 21: the best row of acts ahead. */
public final class AheadTest {
    private static final int NONE = CarriedAsFarAsTheStile.NONE;

    public static void main(String[] args) {
        nothingAhead();
        farthest();
        leastTired();
        fewestMinutes();
        firstOfSeveral();
        dearest();
        refused();
        Due.end();
    }

    private static void ahead(String when, CarriedAsFarAsTheStile x, int n, int gone, int worst, int minutes, int... acts) {
        Due.due(when + ": ACTS", x.ahead(n, NONE), acts.length);
        for (int i = 0; i < acts.length; i++) Due.due(when + ": act " + i, x.ahead(n, i), acts[i]);
        for (int i = acts.length; i < 4; i++) Due.due(when + ": no act " + i, x.ahead(n, i), -5);
        Due.due(when + ": FURLONGS", x.ahead(n, 4), gone);
        Due.due(when + ": greatest TIRED", x.ahead(n, 5), worst);
        Due.due(when + ": MINUTES", x.ahead(n, 6), minutes);
    }

    private static void nothingAhead() {
        CarriedAsFarAsTheStile x = new CarriedAsFarAsTheStile();
        ahead("without furlongs, though a REST MAY be", x, 4, 0, 0, 0);
        x.person(0, 0);
        x.tire(0, 7);
        ahead("as it is now counts", x, 1, 0, 7, 0);
        CarriedAsFarAsTheStile y = Due.told("up 0;up 0;legs 1;biscuits 0;races 0;act 6");
        ahead("where none MAY be", y, 3, 0, 0, 0);
    }

    private static void farthest() {
        CarriedAsFarAsTheStile x = Due.told("up 0;up 0;up 0;legs 1;biscuits 0;races 0;person 0 0");
        // Walking but once: he carries twice of three, the last time and the first, else he were at 8.
        ahead("two walks can't be", x, 3, 3, 6, 23, 0, 6, 0);
        ahead("one", x, 1, 1, 0, 9, 6);
        x.does(6);
        x.does(0);
        ahead("it ends at the end", x, 4, 1, 8, 6, 0);
        CarriedAsFarAsTheStile y = Due.told("up 0;up 0;stile;legs 1;biscuits 0;races 0");
        ahead("it ends where none MAY be", y, 2, 1, 0, 9, 6);
        ahead("a REST helps to no furlong more", y, 3, 1, 0, 9, 6);
        CarriedAsFarAsTheStile z = Due.told("up 0;stile;up 0;stile;up 0;legs 1;biscuits 0;races 0");
        ahead("a REST at a stile helps", z, 3, 2, 0, 28, 6, 9, 6);
        ahead("it goes on where a REST MAY be, though it helps no more", z, 4, 2, 0, 38, 6, 9, 6, 9);
    }

    private static void leastTired() {
        CarriedAsFarAsTheStile x = Due.told("up 0;up 0;up 0;person 0 0;person 0 0;legs 1;biscuits 0;races 0;act 6;tired 1 1");
        ahead("who is fresher first, then the other", x, 2, 2, 4, 13, 0, 1);
        x.tire(0, 5);
        ahead("the other way about", x, 2, 2, 7, 13, 1, 0);
        x.tire(0, 9);
        ahead("the greatest TIRED is ahead of all", x, 1, 1, 9, 7, 1);
        x.ask(2, 5);
        ahead("one MAY not", x, 1, 1, 9, 7, 1);
    }

    private static void fewestMinutes() {
        CarriedAsFarAsTheStile x = Due.told("up 3;up 0;person 0 0;tired 0 9;bag 0");
        // As tired as he is, carrying tires him more; walking takes longest, and tires nobody.
        ahead("least TIRED ahead of MINUTES", x, 1, 1, 9, 12, 6);
        CarriedAsFarAsTheStile y = Due.told("up 0;up 0;person 0 0;person 3 0;tired 1 40;worn 9");
        ahead("MINUTES where the greatest is the same", y, 1, 1, 40, 7, 0);
        ahead("MINUTES where the greatest is the same, two", y, 2, 2, 40, 13, 0, 0);
        CarriedAsFarAsTheStile z = Due.told("up 3;up 3;up 0;person 0 0;person 0 0;tired 1 40;worn 13;legs 1;biscuits 0;races 0");
        // He may not twice up 3; carried twice on end is a minute less than carried, walked and carried again.
        ahead("a later row of fewer MINUTES", z, 3, 3, 40, 12 + 10 + 6, 6, 0, 0);
    }

    private static void firstOfSeveral() {
        CarriedAsFarAsTheStile x = Due.told("up 0;up 0;up 0;up 0");
        ahead("WALK ahead of BISCUIT", x, 2, 2, 0, 18, 6, 6);
        ahead("BISCUIT as soon as it helps", x, 4, 4, 0, 36, 6, 6, 6, 7);
        CarriedAsFarAsTheStile y = Due.told("up 0;up 0;person 0 0;person 0 0;legs 1;biscuits 0;races 0;act 6");
        ahead("the first person", y, 1, 1, 4, 7, 0);
    }

    private static void dearest() {
        CarriedAsFarAsTheStile x = Due.told("up 0;stile;up 0;stile;up 0;stile;up 0;stile;up 0;person 0 0;person 0 0;person 0 0;person 0 0;person 0 0;person 0 0;nap 9;worn 99;legs 1;biscuits 1;races 0");
        ahead("carried by several", x, 4, 4, 4, 7 + 6 + 6 + 6, 0, 1, 2, 0);
    }

    private static void refused() {
        CarriedAsFarAsTheStile x = Due.told("up 0;up 0");
        Due.due("ahead(0, 7)", x.ahead(0, 7), -5);
        Due.due("ahead(0, -2)", x.ahead(0, -2), -5);
        Due.due("ahead(0, 6)", x.ahead(0, 6), -6);
        Due.due("ahead(5, 3)", x.ahead(5, 3), -6);
        Due.due("ahead(2, 2)", x.ahead(2, 2), -5);
        Due.due("ahead(4, 2)", x.ahead(4, 2), -5);
        Due.due("ahead(2, 1)", x.ahead(2, 1), 6);
        Due.refusals("ahead", x, 0, 0, 0, 0, 4, 2, 0);
        Due.due("nothing is gone", x.status(2), 0);
    }
}
