/** The edges that the document names for acts: promises 19, 20, 34 and 36, and the MINUTES, LEGS and TIRED of acts. */
public final class EdgesOfActsTest {
    private static final String[] SIX = {"person(0, 0)", "person(1, 0)", "person(2, 0)", "person(3, 0)", "person(4, 0)", "person(5, 0)"};

    public static void main(String[] args) {
        acts0To9();
        suchAPerson();
        aNextFurlong();
        tiredAndLoadWornAtMost();
        gransLoadCounts();
        asleepBehindNap();
        strangersOnlyAsleep();
        gransSlope1AtMost();
        legs1AtLeast();
        biscuitsAndRacesThereMustBe();
        restHereIs0();
        restAtAStile();
        restUpTo900();
        restAtTheEnd();
        legsByCarrying();
        minutesOfCarrying();
        minutesOfWalking();
        onIs0();
        othersRest();
        whoHasTheBagRests1Less();
        restMakesAll6Less();
        restMakesLegsMostAtLeast();
        biscuits();
        races();
        biscuitAboveNine();
        day();
        next();
        Due.end();
    }

    /** ACTS are 0 to 9; may() refuses others, does() likewise. */
    private static void acts0To9() {
        Run x = new Run().furlongs(1, 0, false).after(SIX);
        x.dueFrom0("may(", 1, 1, 0, 1, 1, 0, 1, 1, 1, 1).due("may(10)", -6).due("may(-1)", -6).due("may(MIN)", -6).due("may(MAX)", -6);
        x.due("does(10)", -6).due("does(-1)", -6).due("does(2)", -6).due("does(5)", -6).due("status(16)", 8).due("status(2)", 0);
    }

    /** CARRY: such a PERSON. */
    private static void suchAPerson() {
        Run x = new Run().furlongs(1, 0, false);
        for (int p = 0; p < 6; p++) {
            x.due("may(" + p + ")", 0).after("person(0, 0)").due("may(" + p + ")", 1);
        }
        for (int p = 0; p < 6; p++) new Run().furlongs(1, 0, false).times(p, "person(0, 0)").due("does(" + p + ")", -6).due("status(2)", 0);
        x.due("does(5)", 1).due("personOf(5, 2)", 4);
    }

    /** CARRY, WALK, BISCUIT, RACE: a next FURLONG. */
    private static void aNextFurlong() {
        Run x = new Run().times(6, "person(0, 0)").dueFrom0("may(", 0, 0, 0, 0, 0, 0, 0, 0, 0, 1);
        x.furlongs(1, 0, false).dueFrom0("may(", 1, 1, 1, 1, 1, 1, 1, 1, 1, 1);
        x.due("does(6)", 1).dueFrom0("may(", 0, 0, 0, 0, 0, 0, 0, 0, 0, 0);
        for (int a = 0; a <= 9; a++) x.due("does(" + a + ")", -6);
        Run y = new Run().furlongs(24, 0, false).after("person(0, 0)", "ask(2, 99)", "ask(1, 9)").times(23, "does(0)");
        y.due("status(2)", 23).due("may(0)", 1).due("does(0)", 24).due("may(0)", 0).due("does(0)", -6).due("status(2)", 24);
    }

    /** TIRED and LOAD together WORN at most. */
    private static void tiredAndLoadWornAtMost() {
        int[] worn = {1, 4, 5, 20, 98, 99};
        for (int w : worn) {
            Run x = new Run().furlongs(1, 0, false).furlongs(1, -3, false).after("person(0, 0)", "ask(2, " + w + ")");
            if (w >= 4) x.after("tire(0, " + (w - 4) + ")").due("may(0)", 1).after("tire(0, " + (w - 3) + ")");
            x.due("may(0)", 0).due("does(0)", -6).due("does(6)", 1);
            // Down 3 LOAD is 1.
            x.after("tire(0, " + (w - 1) + ")").due("may(0)", 1).after("tire(0, " + w + ")").due("may(0)", 0);
            x.after("tire(0, " + (w - 1) + ")").due("does(0)", 2).due("personOf(0, 2)", w);
        }
        Run bag = new Run().furlongs(1, 0, false).after("person(0, 0)", "tire(0, 14)", "bag(0)").due("may(0)", 1);
        bag.after("tire(0, 15)").due("may(0)", 0).after("bag(NONE)").due("may(0)", 1);
        new Run().furlongs(1, 0, false).after("person(0, 0)", "ask(2, 99)", "tire(0, 99)").due("may(0)", 0);
    }

    private static void gransLoadCounts() {
        Run x = new Run().furlongs(1, 0, false).after("person(6, 0)", "ask(2, 26)", "tire(0, 18)").due("may(0)", 1);
        x.after("tire(0, 19)").due("may(0)", 1).after("tire(0, 20)").due("may(0)", 0).after("ask(2, 28)").due("may(0)", 1);
        x.due("does(0)", 1).due("personOf(0, 2)", 28);
    }

    /** NAP: behind so many FURLONGS carried on end she is ASLEEP: not WALK, BISCUIT, RACE. */
    private static void asleepBehindNap() {
        for (int nap = 1; nap <= 9; nap++) {
            Run x = new Run().furlongs(11, -3, false).after("person(3, 0)", "ask(2, 99)", "ask(1, " + nap + ")");
            for (int on = 0; on < nap; on++) {
                x.due("status(5)", on).due("status(20)", 0).due("may(6)", 1).due("may(7)", 1).due("may(8)", 1).after("does(0)");
            }
            x.due("status(5)", nap).due("status(20)", 1).due("may(6)", 0).due("may(7)", 0).due("may(8)", 0).due("may(0)", 1);
            x.due("does(6)", -6).due("does(7)", -6).due("does(8)", -6).due("status(2)", nap);
            if (nap < 9) x.after("ask(1, " + (nap + 1) + ")").due("status(20)", 0).due("may(6)", 1);
        }
    }

    /** A STRANGE one (UNCLE) only if she is ASLEEP. */
    private static void strangersOnlyAsleep() {
        Run x = new Run().furlongs(5, 0, false).after("person(0, 0)", "person(2, 0)", "person(5, 0)", "ask(1, 2)");
        x.due("may(1)", 0).due("may(2)", 0).after("does(0)").due("may(1)", 0).due("may(2)", 0).due("does(1)", -6).due("does(2)", -6);
        x.after("does(0)").due("may(1)", 1).due("may(2)", 1).due("does(1)", 3).due("does(2)", 4).due("status(5)", 4);
        x.due("personOf(1, 2)", 3).due("personOf(2, 2)", 4);
    }

    /** A GRAN only if SLOPE is 1 at most; SMALL without that. */
    private static void gransSlope1AtMost() {
        for (int slope = -3; slope <= 3; slope++) {
            Run x = new Run().furlongs(1, slope, false).after("person(6, 0)", "person(4, 0)");
            x.due("may(0)", slope <= 1 ? 1 : 0).due("may(1)", 1).due("does(0)", slope <= 1 ? 1 : -6);
        }
    }

    /** WALK: LEGS 1 at least; BISCUIT and RACE: LEGS 0 will do. */
    private static void legs1AtLeast() {
        Run x = new Run().furlongs(4, 0, false).after("ask(0, 2)").due("may(6)", 1).due("does(6)", 1).due("status(4)", 1).due("may(6)", 1);
        x.due("does(6)", 2).due("status(4)", 0).due("may(6)", 0).due("does(6)", -6).due("may(7)", 1).due("may(8)", 1);
        x.due("does(8)", 3).due("status(4)", 0).due("may(6)", 0).due("does(7)", 4).due("status(4)", 1);
    }

    /** A BISCUIT, a RACE there must be. */
    private static void biscuitsAndRacesThereMustBe() {
        Run x = new Run().furlongs(24, 0, false).after("ask(3, 0)", "ask(4, 0)").due("may(7)", 0).due("may(8)", 0).due("does(7)", -6).due("does(8)", -6);
        x.after("ask(3, 1)").due("may(7)", 1).due("may(8)", 0).due("does(7)", 1).due("status(9)", 0).due("may(7)", 0).due("does(7)", -6);
        x.after("ask(4, 1)").due("may(8)", 1).due("does(8)", 2).due("status(10)", 0).due("may(8)", 0).due("does(8)", -6);
        x.after("ask(3, 9)", "ask(4, 9)");
        for (int left = 8; left >= 0; left--) x.after("does(7)").due("status(9)", left).after("does(8)").due("status(10)", left);
        x.due("may(7)", 0).due("may(8)", 0).due("status(2)", 20);
    }

    /** REST: HERE is 0, also without FURLONGS and with ON above 0 nowhere. */
    private static void restHereIs0() {
        new Run().due("may(9)", 1).due("does(9)", 0).due("status(3)", 10);
        new Run().furlongs(2, 0, false).due("may(9)", 1).due("does(9)", 0).after("does(6)").due("may(9)", 0).due("does(9)", -6).after("day()").due("may(9)", 1);
    }

    /** REST: or the last FURLONG gone has a STILE. */
    private static void restAtAStile() {
        Run x = new Run().furlongs(1, 0, false).furlongs(1, 0, true).furlongs(1, 0, false);
        x.after("does(6)").due("may(9)", 0).after("does(6)").due("may(9)", 1).due("does(9)", 2).due("may(9)", 1).after("does(6)").due("may(9)", 0);
    }

    /** REST: MINUTES are 900 at most. */
    private static void restUpTo900() {
        Run x = new Run().furlongs(1, 0, true).times(89, "does(9)").due("status(3)", 890).due("may(9)", 1).due("does(9)", 0);
        x.due("status(3)", 900).due("may(9)", 1).due("next()", 960).due("does(9)", 0).due("status(3)", 910).due("may(9)", 0);
        x.due("next()", 448).due("does(9)", -6).due("does(6)", 1).due("status(3)", 919).due("may(9)", 0);
        // 890, and 10 or 11 of a walk.
        new Run().furlongs(1, 1, true).times(89, "does(9)").after("does(6)").due("status(3)", 900).due("may(9)", 1).due("does(9)", 1);
        new Run().furlongs(1, 2, true).times(89, "does(9)").after("does(6)").due("status(3)", 901).due("may(9)", 0).due("does(9)", -6);
    }

    private static void restAtTheEnd() {
        new Run().furlongs(1, 0, true).after("does(6)").due("next()", 512).due("does(9)", 1).due("does(9)", 1).due("status(3)", 29);
        new Run().furlongs(1, 0, false).after("does(6)").due("next()", 0).due("does(9)", -6);
    }

    /** LEGS are 1 more (MOST at most, if they are below), if ON is even then. */
    private static void legsByCarrying() {
        Run x = new Run().furlongs(12, 0, false).after("person(3, 0)", "ask(2, 99)", "ask(1, 9)", "ask(0, 1)", "does(6)", "ask(0, 3)").due("status(4)", 0);
        int[] legs = {0, 1, 1, 2, 2, 3, 3, 3, 3, 3};
        for (int l : legs) x.after("does(0)").due("status(4)", l);
        x.due("status(5)", 10);
        // LEGS at MOST and 1 above it stay.
        new Run().furlongs(3, 0, false).after("person(0, 0)", "does(0)", "does(0)").due("status(5)", 2).due("status(4)", 3);
        new Run().furlongs(3, 0, false).after("person(0, 0)", "does(7)", "does(0)", "does(0)").due("status(5)", 2).due("status(4)", 4);
    }

    /** 6 minutes and SLOPE, and 1 if ON is 1 (3 at least). */
    private static void minutesOfCarrying() {
        for (int slope = -3; slope <= 3; slope++) {
            Run x = new Run().furlongs(5, slope, false).after("person(3, 0)", "ask(2, 99)", "does(0)").due("status(3)", 7 + slope);
            x.after("does(0)").due("status(3)", 13 + 2 * slope).after("does(0)").due("status(3)", 19 + 3 * slope);
            x.after("does(6)", "does(0)").due("status(3)", 35 + 5 * slope);
        }
    }

    /** 9 minutes and SLOPE, by BISCUIT and RACE, too. */
    private static void minutesOfWalking() {
        for (int slope = -3; slope <= 3; slope++) {
            Run x = new Run().furlongs(3, slope, false).due("does(6)", 1).due("status(3)", 9 + slope);
            x.due("does(7)", 2).due("status(3)", 18 + 2 * slope).due("does(8)", 3).due("status(3)", 27 + 3 * slope);
        }
    }

    /** ON is 0 by WALK, BISCUIT, RACE, REST and another day. */
    private static void onIs0() {
        String[] acts = {"does(6)", "does(7)", "does(8)", "does(9)", "day()"};
        for (String act : acts) {
            new Run().furlongs(3, 0, true).after("person(0, 0)", "does(0)").due("status(5)", 1).after(act).due("status(5)", 0);
        }
        new Run().furlongs(1, 0, true).after("person(0, 0)", "ask(1, 1)", "does(0)").due("status(20)", 1).after("does(9)").due("status(20)", 0);
    }

    /** All others rest: TIRED is 2 less (FATHER 3; 0 at least). */
    private static void othersRest() {
        for (int kind = 0; kind <= 6; kind++) {
            int rest = kind == 3 ? 3 : 2;
            for (int tired = 0; tired <= 5; tired++) {
                Run x = new Run().furlongs(2, 0, false).after("person(" + kind + ", 0)", "person(0, 0)", "tire(0, " + tired + ")");
                x.after("does(1)").due("personOf(0, 2)", Math.max(0, tired - rest)).due("personOf(1, 2)", 4);
                x.after("tire(0, " + tired + ")", "does(6)").due("personOf(0, 2)", Math.max(0, tired - rest)).due("personOf(1, 2)", 2);
            }
        }
        new Run().furlongs(1, 0, false).after("person(0, 0)", "tire(0, 99)", "does(6)").due("personOf(0, 2)", 97);
    }

    /** Who has the BAG and doesn't carry her rests 1 less; who carries her with it has LOAD alone. */
    private static void whoHasTheBagRests1Less() {
        for (int kind = 0; kind <= 6; kind++) {
            int rest = kind == 3 ? 2 : 1;
            for (int tired = 0; tired <= 4; tired++) {
                Run x = new Run().furlongs(2, 0, false).after("person(" + kind + ", 0)", "person(0, 0)", "bag(0)", "tire(0, " + tired + ")");
                x.after("does(1)").due("personOf(0, 2)", Math.max(0, tired - rest));
                x.after("tire(0, " + tired + ")", "does(7)").due("personOf(0, 2)", Math.max(0, tired - rest));
            }
        }
        new Run().furlongs(1, 0, false).after("person(0, 0)", "bag(0)", "tire(0, 5)", "does(0)").due("personOf(0, 2)", 11);
    }

    /** REST: all TIRED 6 less, FATHER and who has the BAG, too; 0 at least. */
    private static void restMakesAll6Less() {
        int[] tired = {0, 5, 6, 7, 12, 99};
        int[] then = {0, 0, 0, 1, 6, 93};
        for (int i = 0; i < tired.length; i++) {
            Run x = new Run().after("person(0, 0)", "person(3, 0)", "person(6, 0)", "bag(1)");
            for (int p = 0; p < 3; p++) x.after("tire(" + p + ", " + tired[i] + ")");
            x.due("does(9)", 0).due("status(3)", 10);
            for (int p = 0; p < 3; p++) x.due("personOf(" + p + ", 2)", then[i]);
            x.after("tire(1, " + tired[i] + ")", "bag(0)", "tire(0, " + tired[i] + ")", "does(9)").due("personOf(0, 2)", then[i]).due("personOf(1, 2)", then[i]);
        }
    }

    /** REST: LEGS are MOST at least. */
    private static void restMakesLegsMostAtLeast() {
        new Run().furlongs(1, 0, true).after("does(6)").due("status(4)", 2).after("does(9)").due("status(4)", 3);
        new Run().after("does(9)").due("status(4)", 3);
        new Run().furlongs(1, 0, true).after("does(7)").due("status(4)", 4).after("does(9)").due("status(4)", 4);
        new Run().after("ask(0, 9)").due("status(4)", 3).after("does(9)").due("status(4)", 9);
    }

    /** She has LEGS from 0 to 3 where MOST is 2: by asking for MOST, and by BISCUITS. */
    private static Run withLegs(int legs) {
        Run x = new Run().furlongs(4, 0, false);
        if (legs == 0) return x.after("ask(0, 1)", "does(6)", "ask(0, 2)");
        if (legs == 1) return x.after("ask(0, 1)", "ask(0, 2)");
        if (legs == 2) return x.after("ask(0, 2)");
        return x.after("ask(0, 2)", "does(7)", "ask(3, 2)");
    }

    /** BISCUIT: LEGS are 2 more (MOST and 2 at most), then she WALKS. */
    private static void biscuits() {
        int[] then = {1, 2, 3, 3};
        for (int legs = 0; legs <= 3; legs++) {
            withLegs(legs).due("status(6)", 2).due("status(4)", legs).after("does(7)").due("status(4)", then[legs]).due("status(9)", 1).due("status(10)", 1);
        }
    }

    /** RACE: LEGS are 1 more (likewise), then she WALKS. */
    private static void races() {
        for (int legs = 0; legs <= 3; legs++) {
            withLegs(legs).due("status(4)", legs).after("does(8)").due("status(4)", legs).due("status(9)", 2).due("status(10)", 0);
        }
    }

    /** MOST and 2 at most, also where MOST is 9: she has 11, and then walks. */
    private static void biscuitAboveNine() {
        Run x = new Run().furlongs(4, 0, false).after("ask(0, 9)", "does(9)", "does(7)").due("status(4)", 10).after("does(7)").due("status(4)", 10);
        x.after("does(8)").due("status(4)", 10).after("does(6)").due("status(4)", 9);
    }

    /** Another day: HERE, MINUTES, ON 0, LEGS MOST, nobody TIRED. */
    private static void day() {
        Run x = new Run().furlongs(24, 0, false).times(6, "person(0, 0)").after("ask(2, 99)").times(24, "does(0)").after("tire(5, 99)");
        x.due("day()", 24).due("status(2)", 0).due("status(3)", 0).due("status(4)", 3).due("status(5)", 0).due("status(20)", 0);
        for (int p = 0; p < 6; p++) x.due("personOf(" + p + ", 2)", 0);
        x.due("day()", 0).after("does(7)").due("status(4)", 4).due("day()", 1).due("status(4)", 3).due("status(9)", 1);
        x.after("ask(0, 9)").due("day()", 0).due("status(4)", 9);
        new Run().due("day()", 0).due("status(4)", 3);
    }

    /** NEXT: ACTS that MAY be (bits): none, one, all. */
    private static void next() {
        new Run().due("next()", 512);
        new Run().furlongs(1, 0, false).after("does(6)").due("next()", 0);
        new Run().furlongs(1, 0, false).times(6, "person(0, 0)").due("next()", 1023);
        new Run().furlongs(2, 0, false).times(6, "person(0, 0)").after("ask(1, 1)", "does(5)").due("next()", 63);
        new Run().furlongs(2, 0, true).after("person(0, 0)", "ask(1, 1)", "does(0)").due("next()", 513);
    }
}
