/** The edges that the document names for rows ahead and rules: promises 21 to 27, 32 and 33. */
public final class EdgesOfRulesTest {
    public static void main(String[] args) {
        aheadOf1To4();
        aheadEndsAtTheEnd();
        aheadEndsWhereNoneMayBe();
        aheadOfTiredAsItIsNow();
        aheadFromHere();
        rules0To3();
        byOfNoFurlongsLeft();
        byOfEachPersonThere();
        byWithoutPeople();
        tiredAsItIsNow();
        turnsGoAroundAtStiles();
        turnsOfOnePerson();
        turnsAskAllOnce();
        turnStaysIfNoneMay();
        untilNothingMayBe();
        actsByARule();
        restsUpTo900();
        freshFirstOfSeveral();
        bestFirstOfSeveral();
        whoseFirstOfSeveral();
        turnBackAtMostN();
        turnBackNotEvenNow();
        turnBackAtAnyN();
        paysOnlyIfARestMayBe();
        paysFartherOrLessTired();
        baggedFirstOfSeveral();
        baggedLastOfSix();
        enough0To9();
        leastWorn1To99();
        nothingIsChanged();
        Due.end();
    }

    private static void ahead(Run x, int n, long gone, long worst, long minutes, int... acts) {
        x.due("ahead(" + n + ", NONE)", acts.length);
        for (int i = 0; i < 4; i++) x.due("ahead(" + n + ", " + i + ")", i < acts.length ? acts[i] : -5);
        x.due("ahead(" + n + ", 4)", gone).due("ahead(" + n + ", 5)", worst).due("ahead(" + n + ", 6)", minutes);
        x.due("ahead(" + n + ", 7)", -5).due("ahead(" + n + ", -2)", -5);
    }

    private static void by(Run x, int rule, long here, long minutes, long worst, long acts) {
        x.dueFrom0("by(" + rule + ", ", here, minutes, worst, acts, -5);
    }

    /** AHEAD n (1 to 4). */
    private static void aheadOf1To4() {
        Run x = new Run().furlongs(5, 0, false).after("ask(0, 9)", "does(9)");
        ahead(x, 1, 1, 0, 9, 6);
        ahead(x, 2, 2, 0, 18, 6, 6);
        ahead(x, 3, 3, 0, 27, 6, 6, 6);
        ahead(x, 4, 4, 0, 36, 6, 6, 6, 6);
        x.due("ahead(0, NONE)", -6).due("ahead(5, NONE)", -6).due("ahead(MIN, 4)", -6).due("ahead(MAX, 4)", -6).due("status(2)", 0);
    }

    /** They end sooner at the end of the WAY, also where a REST MAY be there. */
    private static void aheadEndsAtTheEnd() {
        for (int left = 0; left <= 4; left++) {
            Run x = new Run().furlongs(4, 0, true).after("ask(0, 9)", "does(9)").times(4 - left, "does(6)").due("may(9)", 1);
            int[] acts = new int[left];
            java.util.Arrays.fill(acts, 6);
            ahead(x, 4, left, 0, 9 * left, acts);
        }
        ahead(new Run(), 1, 0, 0, 0);
    }

    /** Or where none MAY be: of none that MAY be 0 ACTS. */
    private static void aheadEndsWhereNoneMayBe() {
        Run x = new Run().furlongs(4, 0, false).after("ask(0, 1)", "ask(3, 0)", "ask(4, 0)");
        ahead(x, 4, 1, 0, 9, 6);
        x.after("does(6)").due("next()", 0);
        ahead(x, 1, 0, 0, 0);
        ahead(x, 4, 0, 0, 0);
        // He is too tired, with the STRANGE one she goes only asleep, and her LEGS are at an end.
        Run y = new Run().furlongs(3, 0, false).after("person(2, 0)", "person(0, 0)", "tire(1, 99)", "ask(0, 1)", "ask(3, 0)", "ask(4, 0)", "does(6)");
        ahead(y, 3, 0, 97, 0);
    }

    /** The greatest TIRED ever: as it is now counts, too, of anybody. */
    private static void aheadOfTiredAsItIsNow() {
        Run x = new Run().furlongs(1, 0, false).times(6, "person(0, 0)").after("tire(5, 99)");
        ahead(x, 1, 1, 99, 7, 0);
        x.after("tire(5, 4)");
        ahead(x, 1, 1, 4, 7, 0);
        // 4 by carrying her is 1 more than 3 now: she walks.
        x.after("tire(5, 3)");
        ahead(x, 1, 1, 3, 9, 6);
        x.after("does(6)", "tire(0, 98)");
        ahead(x, 4, 0, 98, 0);
    }

    /** FURLONGS and MINUTES are those of the row alone. */
    private static void aheadFromHere() {
        Run x = new Run().furlongs(3, 1, false).after("ask(0, 9)", "does(9)", "does(6)").due("status(3)", 20);
        ahead(x, 2, 2, 0, 20, 6, 6);
    }

    /** RULES are 0 to 3. */
    private static void rules0To3() {
        Run x = new Run().furlongs(1, 0, false);
        for (int rule = 0; rule <= 3; rule++) {
            by(x, rule, 1, 9, 0, 1);
            x.due("turn(" + rule + ", 18)", 1).due("pays(" + rule + ")", 0).due("bagged(" + rule + ")", -1).due("leastWorn(" + rule + ")", 1);
        }
        for (int rule : new int[] {-1, 4}) {
            x.due("by(" + rule + ", 0)", -6).due("turn(" + rule + ", 18)", -16).due("pays(" + rule + ")", -6);
            x.due("bagged(" + rule + ")", -16).due("leastWorn(" + rule + ")", -16);
        }
        x.due("status(16)", 10);
    }

    /** At the end of the WAY a RULE does nothing, though a REST MAY be. */
    private static void byOfNoFurlongsLeft() {
        Run x = new Run().furlongs(2, 0, true).after("person(0, 0)", "tire(0, 9)", "does(6)", "does(6)").due("next()", 512);
        for (int rule = 0; rule <= 3; rule++) by(x, rule, 2, 18, 5, 0);
        x.due("by(0, 10)", 5).due("best(0)", 0).due("best(1)", 0).due("pays(0)", 0).due("turn(0, 36)", 0).due("turn(0, 35)", -1);
        x.due("enough()", 0).due("leastWorn(3)", 1);
    }

    /** TIRED of a PERSON then: 10 and the number; -5 of one that is not there. */
    private static void byOfEachPersonThere() {
        Run x = new Run().furlongs(1, 0, false);
        for (int p = 0; p < 6; p++) {
            x.due("by(1, " + (10 + p) + ")", -5).after("person(0, 0)", "tire(" + p + ", " + (90 + p) + ")").due("by(1, " + (10 + p) + ")", 88 + p);
        }
        x.due("by(1, 16)", -5).due("by(1, 9)", -5).due("by(1, 4)", -5).due("by(1, 3)", 1).due("by(4, 16)", -5).due("by(4, 15)", -6);
    }

    private static void byWithoutPeople() {
        Run x = new Run().furlongs(24, 0, true);
        by(x, 0, 24, 24 * 9 + 7 * 10, 0, 31);
        by(x, 1, 24, 24 * 9 + 7 * 10, 0, 31);
        by(x, 2, 24, 24 * 9 + 7 * 10, 0, 31);
        // Two BISCUITS and a RACE for 3, 2, 2 and 1 furlongs, then 3 a rest.
        by(x, 3, 24, 24 * 9 + 6 * 10, 0, 30);
        x.due("fits(0)", -3).after("row(0, 0, 0)").due("fits(0)", 15);
    }

    private static void tiredAsItIsNow() {
        Run x = new Run().furlongs(3, 0, false).after("person(0, 0)", "person(0, 0)", "tire(1, 99)");
        for (int rule = 0; rule <= 3; rule++) x.due("by(" + rule + ", 2)", 99).due("by(" + rule + ", 11)", 93);
    }

    /** The next one's turn is behind each STILE: behind the last one's it is 0's again. */
    private static void turnsGoAroundAtStiles() {
        Run x = new Run().furlongs(7, 0, true).times(6, "person(0, 0)");
        by(x, 0, 7, 43, 4, 7);
        int[] tired = {4, 0, 0, 0, 0, 2};
        for (int p = 0; p < 6; p++) x.due("by(0, " + (10 + p) + ")", tired[p]);
        Run y = new Run().furlongs(6, 0, true).times(6, "person(0, 0)");
        int[] then = {0, 0, 0, 0, 2, 4};
        for (int p = 0; p < 6; p++) y.due("by(0, " + (10 + p) + ")", then[p]);
        // Without STILES he goes on who did.
        Run z = new Run().furlongs(5, 0, false).times(6, "person(0, 0)").due("by(0, 10)", 20).due("by(0, 15)", 0);
        by(z, 0, 5, 31, 20, 5);
    }

    private static void turnsOfOnePerson() {
        Run x = new Run().furlongs(3, 0, true).after("person(0, 0)").due("by(0, 10)", 12);
        by(x, 0, 3, 19, 12, 3);
    }

    /** All are asked once, from whose turn it is: the next one, though he is behind the last. */
    private static void turnsAskAllOnce() {
        // 0 past the STILE, then 1 up 3 MAY not, 2 MAY not: 0 again, and keeps the turn.
        Run x = new Run().after("furlong(0, 1)", "furlong(3, 0)", "furlong(0, 0)").times(3, "person(0, 0)").after("tire(1, 16)", "tire(2, 18)");
        by(x, 0, 3, 7 + 9 + 6, 18, 3);
        x.due("by(0, 10)", 4 + 7 + 4).due("by(0, 11)", 10).due("by(0, 12)", 12);
        // The last MAY as well: he keeps it.
        Run y = new Run().after("furlong(0, 0)", "furlong(0, 0)").times(6, "person(0, 0)");
        for (int p = 0; p < 5; p++) y.after("tire(" + p + ", 17)");
        by(y, 0, 2, 13, 17, 2);
        y.due("by(0, 15)", 8).due("by(0, 10)", 13);
    }

    /** If none MAY, the turn stays: it is still 0's when he MAY again. */
    private static void turnStaysIfNoneMay() {
        Run x = new Run().furlongs(3, 0, false).after("person(0, 0)", "person(0, 0)", "tire(0, 18)", "tire(1, 18)");
        // She walks once: both are 16, and 0 carries; then 1, who is 14 by then.
        by(x, 0, 3, 9 + 7 + 6, 20, 3);
        x.due("by(0, 10)", 18).due("by(0, 11)", 18);
        // Behind a STILE she has walked past it is 1's.
        Run y = new Run().furlongs(1, 0, true).furlongs(1, 0, false).after("person(0, 0)", "person(0, 0)", "tire(0, 18)", "tire(1, 18)");
        y.due("by(0, 10)", 14).due("by(0, 11)", 20);
    }

    /** Till by them nothing MAY be. */
    private static void untilNothingMayBe() {
        Run x = new Run().furlongs(24, 0, false);
        by(x, 0, 3, 27, 0, 3);
        by(x, 1, 3, 27, 0, 3);
        by(x, 2, 3, 27, 0, 3);
        // Two BISCUITS help her 4 furlongs, a RACE 1.
        by(x, 3, 8, 72, 0, 8);
        Run asleep = new Run().furlongs(3, 0, false).after("person(0, 0)", "ask(1, 1)", "ask(2, 4)");
        by(asleep, 0, 1, 7, 4, 1);
        by(asleep, 2, 3, 27, 0, 3);
    }

    /** 60 ACTS at most: the longest there are have a REST behind each of 24 furlongs but the last. */
    private static void actsByARule() {
        Run x = new Run().furlongs(24, 0, true).after("ask(0, 1)", "ask(3, 0)", "ask(4, 0)");
        for (int rule = 0; rule <= 3; rule++) by(x, rule, 24, 24 * 9 + 23 * 10, 0, 47);
        Run y = new Run().furlongs(24, 0, true).after("ask(0, 1)", "ask(3, 0)", "ask(4, 0)", "does(6)");
        for (int rule = 0; rule <= 3; rule++) by(y, rule, 24, 24 * 9 + 23 * 10, 0, 46);
    }

    /** By a RULE she rests at 900 MINUTES, not above. */
    private static void restsUpTo900() {
        Run x = new Run().furlongs(2, 0, true).after("ask(0, 1)", "ask(3, 0)", "ask(4, 0)").times(89, "does(9)");
        // 890 and 9 by WALK are 899.
        for (int rule = 0; rule <= 3; rule++) by(x, rule, 2, 899 + 10 + 9, 0, 3);
        x.after("does(9)");
        for (int rule = 0; rule <= 3; rule++) by(x, rule, 1, 909, 0, 1);
        Run y = new Run().after("furlong(1, 1)", "furlong(0, 0)", "ask(0, 1)", "ask(3, 0)", "ask(4, 0)").times(89, "does(9)");
        for (int rule = 0; rule <= 3; rule++) by(y, rule, 2, 900 + 10 + 9, 0, 3);
        Run z = new Run().after("furlong(2, 1)", "furlong(0, 0)", "ask(0, 1)", "ask(3, 0)", "ask(4, 0)").times(89, "does(9)");
        for (int rule = 0; rule <= 3; rule++) by(z, rule, 1, 901, 0, 1);
    }

    /** The least TIRED, of several the first: of all six, or the last alone. */
    private static void freshFirstOfSeveral() {
        Run x = new Run().furlongs(1, 0, false).times(6, "person(0, 0)").due("by(1, 10)", 4).due("by(1, 15)", 0);
        for (int p = 0; p < 5; p++) x.after("tire(" + p + ", 3)");
        x.after("tire(5, 2)").due("by(1, 10)", 1).due("by(1, 15)", 6);
        x.after("tire(5, 3)").due("by(1, 10)", 7).due("by(1, 15)", 1);
    }

    /** Of several the first; one is better by 1. */
    private static void bestFirstOfSeveral() {
        Run x = new Run().furlongs(1, 0, false).after("person(0, 0)", "tire(0, 99)").due("best(0)", 0).due("best(1)", 0);
        // TURNS and FRESH carry: 4, in 7 minutes; LEGS and COAX walk: 0, in 9.
        x.after("tire(0, 0)").due("best(0)", 2).due("best(1)", 0).due("best(-1)", -5).due("best(2)", -5);
        // Only COAX goes the fourth.
        new Run().furlongs(4, 0, false).due("best(0)", 3).due("best(1)", 3);
        // TURNS: 7, 11. FRESH: 7, then the other's 1 and 4. LEGS and COAX: she walks, then 1 and 4.
        new Run().furlongs(2, 0, false).after("person(0, 0)", "person(0, 0)", "ask(0, 1)", "ask(3, 0)", "ask(4, 0)", "tire(0, 3)", "tire(1, 3)")
            .due("by(0, 2)", 11).due("by(1, 2)", 7).due("by(2, 2)", 5).due("by(3, 2)", 5).due("best(0)", 2).due("best(1)", 0);
    }

    /** WHOSE: of several the first; of six the last alone. */
    private static void whoseFirstOfSeveral() {
        Run x = new Run().furlongs(23, 0, false).furlongs(1, 3, false).times(5, "person(0, 0)").due("whose(23)", 0).due("whose(24)", -5).due("whose(-1)", -5);
        x.after("person(1, 0)").due("whose(0)", 5).due("whose(23)", 5).after("bag(5)").due("whose(23)", 0).after("bag(0)", "tire(5, 99)").due("whose(23)", 5);
        // FATHER and PERSON down 3 are at 1 both.
        new Run().furlongs(1, -3, false).after("person(0, 0)", "person(3, 0)").due("whose(0)", 0).after("bag(0)").due("whose(0)", 1);
    }

    /** MINUTES then, and 9 for each FURLONG gone in all then, are N at most. */
    private static void turnBackAtMostN() {
        Run x = new Run().furlongs(3, 0, false);
        for (int f = 0; f <= 3; f++) {
            x.due("turn(0, " + 18 * f + ")", f).due("turn(0, " + (18 * f - 1) + ")", f - 1);
        }
        x.due("turn(0, 999)", 3);
        // A REST on the way is not to be waited for where she turns back.
        Run y = new Run().furlongs(2, 0, true).after("ask(0, 1)", "ask(3, 0)", "ask(4, 0)");
        y.due("turn(0, 18)", 1).due("turn(0, 17)", 0).due("turn(0, 28)", 1).due("turn(0, 45)", 1).due("turn(0, 46)", 2);
    }

    /** NONE: not even now; from HERE on. */
    private static void turnBackNotEvenNow() {
        Run x = new Run().furlongs(3, 0, false).after("does(6)", "does(6)");
        x.due("turn(0, 35)", -1).due("turn(0, 36)", 0).due("turn(0, 53)", 0).due("turn(0, 54)", 1).due("turn(3, MAX)", 1);
        new Run().due("turn(0, -1)", -1).due("turn(0, 0)", 0).after("does(9)").due("turn(0, 9)", -1).due("turn(0, 10)", 0);
    }

    private static void turnBackAtAnyN() {
        Run x = new Run().furlongs(24, 3, true).due("turn(2, MAX)", 24).due("turn(2, MIN)", -1).due("turn(4, MAX)", -16).due("turn(-1, MIN)", -16);
        x.due("status(16)", 2);
    }

    /** 0 if no REST MAY be. */
    private static void paysOnlyIfARestMayBe() {
        String[] setting = {"person(0, 0)", "ask(0, 1)", "ask(3, 0)", "ask(4, 0)", "ask(2, 10)"};
        // Too tired he carries her nowhere, and she walks one; rested he carries her, she walks, and he does again.
        Run x = new Run().furlongs(4, 0, false).after(setting).after("does(9)", "tire(0, 10)").due("may(9)", 1).due("by(1, 0)", 1).due("by(1, 2)", 10).due("pays(1)", 1);
        x.times(89, "does(9)").after("tire(0, 10)").due("status(3)", 900).due("pays(1)", 1).after("does(9)", "tire(0, 10)").due("may(9)", 0).due("pays(1)", 0);
        Run y = new Run().furlongs(1, 0, false).furlongs(4, 0, false).after(setting).after("does(6)", "tire(0, 10)").due("may(9)", 0).due("pays(1)", 0);
        y.due("pays(4)", -6).due("pays(-1)", -6);
        Run z = new Run().furlongs(1, 0, true).furlongs(4, 0, false).after(setting).after("does(0)", "tire(0, 10)").due("may(9)", 1).due("pays(1)", 1);
        z.due("status(3)", 7).due("personOf(0, 2)", 10).due("status(2)", 1);
    }

    /** Farther, or as far with a less greatest TIRED, as they are ahead of the REST counting, too. */
    private static void paysFartherOrLessTired() {
        // Not rested he comes to 4 more than he is; rested to 4 or 5, but he was as tired as he is ahead of it.
        Run x = new Run().furlongs(1, 0, false).after("person(0, 0)", "tire(0, 6)").due("pays(1)", 1).due("pays(2)", 0);
        x.after("tire(0, 0)").due("pays(1)", 0).after("tire(0, 1)").due("pays(1)", 1);
        // Another is as tired as he will be: 10.
        Run y = new Run().furlongs(1, 0, false).after("person(0, 0)", "person(4, 0)", "tire(0, 6)", "tire(1, 10)").due("pays(1)", 0);
        y.after("tire(1, 9)").due("pays(1)", 1);
        // Where nothing else MAY be, the RULE rests by itself.
        new Run().furlongs(1, 0, true).furlongs(1, 0, false).after("person(0, 0)", "ask(1, 1)", "ask(2, 4)", "does(0)").due("by(2, 0)", 2).due("pays(2)", 0);
    }

    /** Nobody ahead of all, of several the first. */
    private static void baggedFirstOfSeveral() {
        new Run().due("bagged(0)", -1);
        Run x = new Run().furlongs(3, 0, false).times(6, "person(0, 0)").due("bagged(2)", -1).due("bagged(3)", -1);
        x.after("bag(5)").due("bagged(2)", -1).due("personOf(5, 3)", 1);
    }

    /** The last of six alone makes the RULE less tiring. */
    private static void baggedLastOfSix() {
        // By TURNS 5 carries twice, to 18, as the others MAY not; with the BAG he MAY but once, and she walks.
        Run x = new Run().furlongs(2, 0, false).times(6, "person(0, 0)").after("tire(5, 10)", "ask(2, 18)");
        for (int p = 0; p < 5; p++) x.after("tire(" + p + ", 15)");
        x.due("by(0, 2)", 18).after("bag(5)").due("by(0, 2)", 17).after("bag(NONE)").due("bagged(0)", 5).due("personOf(5, 3)", 0);
        for (int p = 0; p < 5; p++) x.after("bag(" + p + ")").due("by(0, 2)", 18);
    }

    /** ENOUGH: 0 to 9; NONE. */
    private static void enough0To9() {
        // 1 furlong on her own legs, 2 by each BISCUIT; LEGS are MOST at most.
        for (int biscuits = 0; biscuits <= 9; biscuits++) {
            Run x = new Run().furlongs(1 + 2 * biscuits, 0, false).after("ask(0, 1)", "ask(4, 0)", "ask(3, 9)").due("enough()", biscuits);
            x.furlongs(1, 0, false).due("enough()", biscuits < 9 ? biscuits + 1 : -1).due("status(9)", 9);
        }
        Run none = new Run().furlongs(1, 0, true).after("does(6)", "ask(3, 0)").due("enough()", 0).due("status(9)", 0);
        none.furlongs(1, 0, false).due("enough()", 0);
    }

    /** LEAST WORN: 1 to 99; NONE. */
    private static void leastWorn1To99() {
        String[] noLegs = {"person(3, 0)", "ask(0, 1)", "ask(3, 0)", "ask(4, 0)"};
        Run x = new Run().furlongs(2, -3, false).after(noLegs).due("leastWorn(0)", 1).after("does(6)");
        for (int rule = 0; rule <= 3; rule++) x.due("leastWorn(" + rule + ")", 1);
        for (int rule = 0; rule <= 3; rule++) {
            x.after("tire(0, 1)").due("leastWorn(" + rule + ")", 2).after("tire(0, 97)").due("leastWorn(" + rule + ")", 98);
            x.after("tire(0, 98)").due("leastWorn(" + rule + ")", 99).after("tire(0, 99)").due("leastWorn(" + rule + ")", -1);
        }
        x.due("leastWorn(4)", -16).due("leastWorn(-1)", -16).due("status(8)", 20);
        new Run().due("leastWorn(0)", 1);
    }

    /** Nothing is changed by what is asked of how things stand. */
    private static void nothingIsChanged() {
        Refusal.changesNothing(Refusal.STANDS, "element(0, 0)", "element(8, 0)", "holds(0)", "holds(8)", "says(3, 6)", "says(6, 1)",
            "furlongOf(1, 1)", "personOf(1, 3)", "load(2, 4)", "may(9)", "may(3)", "next()", "fault()", "trace(3)", "trace(99)", "status(-1)");
        Refusal.changesNothing(Refusal.STANDS, "ahead(1, NONE)", "ahead(2, 1)", "ahead(3, 4)", "ahead(4, 5)", "ahead(4, 6)",
            "best(0)", "best(1)", "whose(0)", "enough()", "judge(0, 3)", "judge(5, 60)", "judge(2, 0)", "behind(0, 1, 2)", "behind(2, 0, 3)", "fits(1)");
        for (int rule = 0; rule <= 3; rule++) {
            Refusal.changesNothing(Refusal.STANDS, "by(" + rule + ", 0)", "by(" + rule + ", 3)", "by(" + rule + ", 13)",
                "turn(" + rule + ", 100)", "pays(" + rule + ")", "bagged(" + rule + ")", "leastWorn(" + rule + ")");
        }
    }
}
