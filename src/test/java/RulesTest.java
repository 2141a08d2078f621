/** Promises 22 to 27, 32 and 33: rules of taking turns, and what is asked of them. */
public final class RulesTest {
    private static final int NONE = CarriedAsFarAsTheStile.NONE;

    public static void main(String[] args) {
        turns();
        turnsWhenOneMayNot();
        fresh();
        legs();
        coax();
        longest();
        byRefused();
        best();
        whose();
        turnBack();
        pays();
        bagged();
        enough();
        leastWorn();
        nothingIsChanged();
        Due.end();
    }

    private static void by(String when, CarriedAsFarAsTheStile x, int rule, int here, int minutes, int worst, int acts) {
        int[] want = {here, minutes, worst, acts};
        for (int w = 0; w < 4; w++) Due.due(when + ": by(" + rule + ", " + w + ")", x.by(rule, w), want[w]);
    }

    private static void tiredBy(String when, CarriedAsFarAsTheStile x, int rule, int... want) {
        for (int p = 0; p < want.length; p++) Due.due(when + ": by(" + rule + ", 1" + p + ")", x.by(rule, 10 + p), want[p]);
    }

    private static void turns() {
        CarriedAsFarAsTheStile x = Due.told("up 0;up 0;stile;up 0;stile;up 0;person 0 0;person 0 0;person 0 0");
        // Two furlongs 0, then 1, then 2.
        by("turns behind stiles", x, 0, 4, 25, 8, 4);
        tiredBy("turns behind stiles", x, 0, 4, 2, 4);
        CarriedAsFarAsTheStile y = Due.told("up 0;stile;up 0;up 0;person 0 0;person 1 0;tired 0 20;tired 1 20;legs 9");
        // Neither may: she walks past the stile, and the turn goes on all the same: 1 is asked first, then 0.
        y.ask(2, 21);
        by("walking past a stile", y, 0, 3, 9 + 7 + 6, 21, 3);
        tiredBy("walking past a stile", y, 0, 20, 19);
    }

    private static void turnsWhenOneMayNot() {
        CarriedAsFarAsTheStile x = Due.told("up 0;up 0;up 0;up 0;person 0 0;person 0 0;worn 8");
        // 0 twice; then 1 as 0 may not, and 1 keeps the turn though 0 may again.
        by("the turn stays with who carries", x, 0, 4, 25, 8, 4);
        tiredBy("the turn stays with who carries", x, 0, 4, 8);
        CarriedAsFarAsTheStile y = Due.told("up 0;up 0;person 0 0;tired 0 20;legs 1;biscuits 0;races 0");
        // He may not, she walks; then he may not, she can't, no stile.
        by("walk, and no rest", y, 0, 1, 9, 20, 1);
        CarriedAsFarAsTheStile z = Due.told("up 0;stile;up 0;up 0;person 0 0;tired 0 20;legs 1;biscuits 0;races 0");
        // Walk (18), rest (12), carried (16, then 20).
        by("rests at the stile", z, 0, 3, 9 + 10 + 7 + 6, 20, 4);
        tiredBy("rests at the stile", z, 0, 20);
        CarriedAsFarAsTheStile none = Due.told("up 0;stile;up 0;up 0;up 0;up 0");
        // Three furlongs on her own legs, no stile then; without people nobody's turn comes.
        by("without people", none, 0, 3, 27, 0, 3);
    }

    private static void fresh() {
        CarriedAsFarAsTheStile x = Due.told("up 0;up 0;up 0;person 0 0;person 0 0;person 3 0;tired 0 5;tired 1 3;tired 2 4");
        // 1 carries (7; 3, 1), then 2 (3; 1, 5), then 0 (5; 3, 0).
        by("the freshest", x, 1, 3, 19, 7, 3);
        tiredBy("the freshest", x, 1, 5, 3, 0);
        CarriedAsFarAsTheStile y = Due.told("up 0;stile;up 0;person 0 0;person 4 0;tired 0 17;tired 1 16;worn 20;legs 1");
        // 1 needs 22, 0 needs 21: she walks, they are 15 and 14; rested they'd be ready, but 1 may now.
        by("of those who may", y, 1, 2, 9 + 7, 20, 2);
        tiredBy("of those who may", y, 1, 13, 20);
    }

    private static void legs() {
        CarriedAsFarAsTheStile x = Due.told("up 0;up 0;up 0;up 0;up 0;legs 2;person 0 0");
        // Walk, walk, carried twice (LEGS 1), walk.
        by("her legs first", x, 2, 5, 9 + 9 + 7 + 6 + 9, 8, 5);
        tiredBy("her legs first", x, 2, 6);
    }

    private static void coax() {
        CarriedAsFarAsTheStile x = Due.told("up 0;up 0;up 0;up 0;up 0;up 0;up 0;legs 1;biscuits 1;races 1;person 0 0");
        // Walk, biscuit (1), walk, race (0), then carried twice (LEGS 1), walk.
        by("coaxed", x, 3, 7, 5 * 9 + 7 + 6, 8, 7);
        tiredBy("coaxed", x, 3, 6);
        CarriedAsFarAsTheStile y = Due.told("up 0;up 0;up 0;up 0;stile;up 0;legs 1;biscuits 1;races 0");
        by("a rest at last", y, 3, 3, 27, 0, 3);
        y.ask(4, 1);
        by("a rest, then to the end", y, 3, 5, 4 * 9 + 10 + 9, 0, 6);
    }

    /** A REST wakes her and gives her legs, so that no rule rests twice on end: 60 ACTS are never needed. */
    private static void longest() {
        CarriedAsFarAsTheStile x = new CarriedAsFarAsTheStile();
        for (int i = 0; i < 24; i++) x.furlong(0, true);
        x.ask(0, 1);
        x.ask(3, 0);
        x.ask(4, 0);
        for (int rule = 0; rule < 4; rule++) by("walks and rests in turn", x, rule, 24, 24 * 9 + 23 * 10, 0, 47);
        for (int i = 0; i < 60; i++) x.does(9);
        by("rests end above 900", x, 1, 17, 600 + 16 * 19 + 9, 0, 33);
    }

    /** Promise 22. */
    private static void byRefused() {
        CarriedAsFarAsTheStile x = Due.told("up 0;person 0 0");
        Due.due("by(4, 4)", x.by(4, 4), -5);
        Due.due("by(0, -1)", x.by(0, -1), -5);
        Due.due("by(0, 9)", x.by(0, 9), -5);
        Due.due("by(0, 11)", x.by(0, 11), -5);
        Due.due("by(4, 10)", x.by(4, 10), -6);
        Due.due("by(-1, 0)", x.by(-1, 0), -6);
        Due.due("by(0, MIN)", x.by(0, Integer.MIN_VALUE), -5);
        Due.refusals("by", x, 0, 0, 0, 0, 5, 2, 0);
        x.tire(0, 77);
        Due.due("as it is now counts, too", x.by(1, 2), 77);
    }

    /** Promise 23. */
    private static void best() {
        CarriedAsFarAsTheStile x = new CarriedAsFarAsTheStile();
        Due.due("the first of all", x.best(0), 0);
        Due.due("the first of the soonest", x.best(1), 0);
        CarriedAsFarAsTheStile y = Due.told("up 0;up 0;up 0;person 0 0;person 0 0");
        // Turns: 12; fresh: 6, both in 19 minutes; legs and coax: 0 in 27.
        Due.due("least tired", y.best(0), 2);
        Due.due("soonest", y.best(1), 0);
        CarriedAsFarAsTheStile z = Due.told("up 0;up 0;up 0;up 0;up 0;up 0;up 0;up 0;up 0;person 0 0;legs 1;worn 8");
        // Only by biscuits and the race she comes so far.
        Due.due("farthest, though not freshest", z.best(0), 3);
        Due.due("farthest, though not soonest", z.best(1), 3);
        Due.due("best(2)", x.best(2), -5);
        Due.due("best(-1)", x.best(-1), -5);
        Due.refusals("best", x, 0, 0, 0, 0, 2, 0, 0);
    }

    /** Promise 24. */
    private static void whose() {
        CarriedAsFarAsTheStile x = Due.told("up 3;down 3;person 6 0;person 0 0;person 3 0;person 2 0;tired 2 99;worn 1");
        Due.due("FATHER, worn as he is", x.whose(0), 2);
        x.bag(2);
        Due.due("with the BAG as light as PERSON: the first", x.whose(0), 1);
        x.bag(NONE);
        Due.due("down 3: the first of those at 1", x.whose(1), 1);
        Due.due("whose(2)", x.whose(2), -5);
        Due.due("whose(-1)", x.whose(-1), -5);
        CarriedAsFarAsTheStile y = Due.told("up 3;person 6 0;person 4 0;tired 0 9");
        Due.due("GRAN up 3 by LOAD alone", y.whose(0), 0);
        y.tire(0, 10);
        Due.due("GRAN as she is now", y.whose(0), 1);
        CarriedAsFarAsTheStile z = Due.told("up 0;person 0 0;person 2 0;bag 0");
        Due.due("STRANGE, awake", z.whose(0), 1);
        CarriedAsFarAsTheStile nobody = Due.told("up 0");
        Due.due("whose of nobody", nobody.whose(0), -5);
        Due.refusals("whose", x, 0, 0, 0, 0, 2, 0, 0);
    }

    /** Promise 25. */
    private static void turnBack() {
        CarriedAsFarAsTheStile x = Due.told("up 0;up 0;up 0;up 0;person 0 0;worn 12;legs 1;biscuits 0;races 0");
        // By FRESH: 7, 13, 19, then she walks: 28; 9 more for each furlong back.
        int[] need = {0, 16, 31, 46, 64};
        for (int f = 0; f <= 4; f++) {
            Due.due("turn back for " + need[f], x.turn(1, need[f]), f);
            Due.due("turn back for 1 less than " + need[f], x.turn(1, need[f] - 1), f - 1);
        }
        Due.due("turn back for ever", x.turn(1, Integer.MAX_VALUE), 4);
        Due.due("turn back for less than nothing", x.turn(1, Integer.MIN_VALUE), NONE);
        x.does(6);
        Due.due("from HERE on: not even now", x.turn(1, 17), NONE);
        Due.due("from HERE on: no farther", x.turn(1, 18), 0);
        Due.due("from HERE on: one", x.turn(1, 34), 1);
        Due.due("turn(4, 0)", x.turn(4, 0), -16);
        Due.due("turn(-1, 0)", x.turn(-1, 0), -16);
        Due.refusals("turn", x, 0, 0, 0, 0, 0, 2, 0);
    }

    /** Promise 26. */
    private static void pays() {
        CarriedAsFarAsTheStile x = Due.told("up 0;up 0;up 0;person 0 0;tired 0 10;worn 16;biscuits 0;races 0;legs 1");
        // Without: 14, walk 12, 16. With: 4 first, 8, 12, 16: but 10 ahead of the rest.
        Due.due("as far, and as tired", x.pays(1), 0);
        x.ask(2, 13);
        // Without: she walks, he is 8, carries to 12, then he may not and she can't: 2. With: 4, 8, 12, walk: 3.
        Due.due("farther", x.by(1, 0) * 10 + x.pays(1), 21);
        CarriedAsFarAsTheStile y = Due.told("up 0;person 0 0;tired 0 10");
        // Without: 14. With: 8, though 10 ahead of it.
        Due.due("less tired", y.pays(1), 1);
        y.tire(0, 0);
        Due.due("as tired", y.pays(1), 0);
        Due.due("she walks, he is no less tired than now", y.pays(2), 0);
        y.tire(0, 10);
        Due.due("the greatest ahead of the REST counts", y.pays(2), 0);
        CarriedAsFarAsTheStile z = Due.told("up 0;up 0;person 0 0;tired 0 10;act 6");
        Due.due("no REST MAY be", z.pays(1), 0);
        Due.due("pays(4)", z.pays(4), -6);
        Due.due("pays(-1)", z.pays(-1), -6);
        Due.refusals("pays", z, 0, 0, 0, 0, 0, 2, 0);
    }

    /** Promise 27. */
    private static void bagged() {
        CarriedAsFarAsTheStile x = Due.told("up 0;person 0 0;person 0 0;tired 1 1;bag 0");
        Due.due("nobody, ahead of all", x.bagged(1), NONE);
        x.tire(1, 9);
        Due.due("nobody, though all are as good but him", x.bagged(1), NONE);
        // By TURNS 0 carries once, to 13; with the BAG he may not, and 1 does all three, to 12.
        CarriedAsFarAsTheStile z = Due.told("up 0;up 3;up 0;person 0 0;person 1 0;tired 0 9;worn 14;biscuits 0;races 0;legs 1");
        Due.due("by TURNS without a BAG", z.by(0, 2), 13);
        Due.due("less tired with it", z.bagged(0), 0);
        Due.due("bagged(4)", z.bagged(4), -16);
        Due.due("bagged(-1)", z.bagged(-1), -16);
        Due.refusals("bagged", z, 0, 0, 0, 0, 0, 2, 0);
        CarriedAsFarAsTheStile one = Due.told("up 0;up 0;person 0 0;person 3 0;worn 8");
        Due.due("0 carries twice", one.by(0, 2), 8);
        Due.due("with the BAG 0 may but once", one.bagged(0), 0);
        Due.due("nothing is changed", one.personOf(0, 3), 0);
    }

    /** Promise 32. */
    private static void enough() {
        CarriedAsFarAsTheStile x = Due.told("up 0;up 0;up 0;up 0;up 0;up 0;races 0;legs 1;biscuits 9");
        // One furlong, then two by each biscuit.
        Due.due("enough()", x.enough(), 3);
        Due.due("BISCUITS stay", x.status(9), 9);
        for (int i = 0; i < 13; i++) x.furlong(0, false);
        Due.due("as many as 9", x.enough(), 9);
        x.furlong(0, false);
        Due.due("never enough", x.enough(), NONE);
        x.person(0, 0);
        Due.due("with somebody", x.enough() >= 0 ? 1 : 0, 1);
        Due.due("none at the end", new CarriedAsFarAsTheStile().enough(), 0);
    }

    /** Promise 33. */
    private static void leastWorn() {
        CarriedAsFarAsTheStile x = Due.told("up 0;up 0;up 0;person 0 0;biscuits 0;races 0;legs 1");
        // Carried, walks, carried: 4, 2, 6.
        Due.due("leastWorn(1)", x.leastWorn(1), 6);
        Due.due("WORN stays", x.status(8), 20);
        Due.due("leastWorn(2)", x.leastWorn(2), 8);
        CarriedAsFarAsTheStile y = Due.told("up 0;person 0 0;tired 0 95;legs 1;biscuits 0;races 0;up 0;act 6");
        // He is 93 then.
        Due.due("as much as 97", y.leastWorn(0), 97);
        y.tire(0, 95);
        Due.due("as much as 99", y.leastWorn(3), 99);
        y.tire(0, 96);
        Due.due("never", y.leastWorn(3), NONE);
        Due.due("leastWorn(4)", y.leastWorn(4), -16);
        Due.due("leastWorn(-1)", y.leastWorn(-1), -16);
        Due.refusals("leastWorn", y, 0, 0, 0, 0, 0, 2, 0);
        Due.due("at the end already", new CarriedAsFarAsTheStile().leastWorn(3), 1);
    }

    private static void nothingIsChanged() {
        CarriedAsFarAsTheStile x = Due.told("up 0;up 2;stile;up 0;person 0 0;person 6 0;bag 1;tired 1 12");
        int[] was = new int[21];
        for (int w = 0; w < 21; w++) was[w] = x.status(w);
        for (int rule = 0; rule < 4; rule++) {
            x.by(rule, 0);
            x.turn(rule, 50);
            x.pays(rule);
            x.bagged(rule);
            x.leastWorn(rule);
        }
        x.best(0);
        x.whose(0);
        x.enough();
        x.ahead(4, 0);
        for (int w = 0; w < 21; w++) Due.due("status(" + w + ") stays", x.status(w), was[w]);
        Due.due("tired of 1 stays", x.personOf(1, 2), 12);
        Due.due("bag of 1 stays", x.personOf(1, 3), 1);
    }
}
