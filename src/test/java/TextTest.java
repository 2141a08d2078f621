/** Promises 16 and 17: ways read from texts, and their faults. */
public final class TextTest {
    private static final int NONE = CarriedAsFarAsTheStile.NONE;

    public static void main(String[] args) {
        wholeTexts();
        toldOverWhatThereIs();
        words();
        numbers();
        room();
        acts();
        nothingIsChangedByAFault();
        otherSorts();
        refused();
        Due.end();
    }

    private static void faultOf(CarriedAsFarAsTheStile x, String text, int fault) {
        Due.text(x, 0, 0, text);
        int answer = x.way(0);
        if (fault == NONE) {
            Due.due("\"" + text + "\" is read", answer, text.split(";", -1).length);
        } else {
            Due.due("\"" + text + "\" is refused", answer, -6);
        }
        Due.due("fault of \"" + text + "\"", x.fault(), fault);
    }

    private static void faultOfNew(String text, int fault) {
        faultOf(new CarriedAsFarAsTheStile(), text, fault);
    }

    private static void wholeTexts() {
        CarriedAsFarAsTheStile x = Due.told("up 3;stile;down 2;down 0;up 02;person 6 9;person 0 07;tired 1 99;bag 1;legs 2;nap 9;worn 99;biscuits 0;races 9");
        int[] slopes = {3, -2, 0, 2};
        for (int f = 0; f < 4; f++) Due.due("slope " + f, x.furlongOf(f, 0), slopes[f]);
        for (int f = 0; f < 4; f++) Due.due("stile " + f, x.furlongOf(f, 1), f == 0 ? 1 : 0);
        Due.due("kind of 0", x.personOf(0, 0), 6);
        Due.due("a of 0", x.personOf(0, 1), 9);
        Due.due("a of 1", x.personOf(1, 1), 7);
        Due.due("tired of 1", x.personOf(1, 2), 99);
        Due.due("bag of 1", x.personOf(1, 3), 1);
        int[] asked = {2, 9, 99, 0, 9};
        for (int w = 0; w < 5; w++) Due.due("status " + (6 + w), x.status(6 + w), asked[w]);
        Due.due("LEGS are MOST at most", x.status(4), 2);
        Due.due("no fault", x.fault(), NONE);
    }

    private static void toldOverWhatThereIs() {
        CarriedAsFarAsTheStile x = new CarriedAsFarAsTheStile();
        x.furlong(1, false);
        x.person(3, 1);
        Due.text(x, 0, 0, "stile;up 2;stile;stile;tired 0 7;bag 0;legs 9");
        Due.due("way over what there is", x.way(0), 7);
        Due.due("stile of the furlong there was", x.furlongOf(0, 1), 1);
        Due.due("furlongs", x.status(1), 2);
        Due.due("stile told twice", x.furlongOf(1, 1), 1);
        Due.due("tired of the person there was", x.personOf(0, 2), 7);
        Due.due("LEGS don't grow", x.status(4), 3);
        Due.due("MOST does", x.status(6), 9);
    }

    private static void words() {
        faultOfNew("", 0);
        faultOfNew(";", 0);
        faultOfNew(" up 1", 0);
        faultOfNew("u", 1);
        faultOfNew("up", 2);
        faultOfNew("ux", 1);
        faultOfNew("up ", 3);
        faultOfNew("upp", 2);
        faultOfNew("up1", 2);
        faultOfNew("up  1", 3);
        faultOfNew("up 1 ", 4);
        faultOfNew("up 1;", 5);
        faultOfNew("up 1;;up 1", 5);
        faultOfNew("up 1; up 1", 5);
        faultOfNew("up 1.up 1", 4);
        faultOfNew("Up 1", 0);
        faultOfNew("bix", 2);
        faultOfNew("bab", 2);
        faultOfNew("biscuit 1", 7);
        faultOfNew("race 1", 4);
        faultOfNew("nest", 1);
        faultOfNew("stil", 4);
        faultOfNew("up 1;stile 1", 10);
        faultOfNew("up 1;stile;", 11);
        faultOfNew("person", 6);
        faultOfNew("person 1", 8);
        faultOfNew("person 1;", 8);
        faultOfNew("person 1 ", 9);
        faultOfNew("person 1 x", 9);
        faultOfNew("legs", 4);
        faultOfNew("legs x", 5);
        faultOfNew("worn 5", NONE);
        faultOfNew("up 1;down 1", NONE);
    }

    private static void numbers() {
        faultOfNew("up 4", 3);
        faultOfNew("up 4x", 3);
        faultOfNew("up 04", 3);
        faultOfNew("up 10", 3);
        faultOfNew("up 123", 3);
        faultOfNew("up 3x", 4);
        faultOfNew("up 012", 5);
        faultOfNew("up 03", NONE);
        faultOfNew("up -1", 3);
        faultOfNew("down 3", NONE);
        faultOfNew("down 4", 5);
        faultOfNew("person 7 1", 7);
        faultOfNew("person 6 10", 9);
        faultOfNew("person 06 09", NONE);
        faultOfNew("legs 0", 5);
        faultOfNew("legs 9", NONE);
        faultOfNew("legs 10", 5);
        faultOfNew("nap 0", 4);
        faultOfNew("nap 9", NONE);
        faultOfNew("nap 10", 4);
        faultOfNew("worn 0", 5);
        faultOfNew("worn 00", 5);
        faultOfNew("worn 1", NONE);
        faultOfNew("worn 99", NONE);
        faultOfNew("worn 100", 7);
        faultOfNew("biscuits 0", NONE);
        faultOfNew("biscuits 9", NONE);
        faultOfNew("biscuits 10", 9);
        faultOfNew("races 0", NONE);
        faultOfNew("races 10", 6);
        faultOfNew("act 10", 4);
        faultOfNew("tired 0 1", 6);
        faultOfNew("bag 0", 4);
        faultOfNew("person 0 0;tired 1 1", 17);
        faultOfNew("person 0 0;tired 0 99", NONE);
        faultOfNew("person 0 0;tired 0 100", 21);
        faultOfNew("person 0 0;bag 1", 15);
        faultOfNew("person 0 0;bag 0", NONE);
    }

    private static void room() {
        CarriedAsFarAsTheStile x = new CarriedAsFarAsTheStile();
        faultOf(x, "stile", 0);
        faultOf(x, "nap 1;stile;up 9", 6);
        for (int f = 0; f < 23; f++) x.furlong(0, false);
        faultOf(x, "up 1;down 1", 5);
        Due.due("nothing was told", x.status(1), 23);
        faultOf(x, "up 1", NONE);
        faultOf(x, "up", 0);
        faultOf(x, "up 9", 0);
        faultOf(x, "u", 1);
        faultOf(x, "ux", 1);
        faultOf(x, "nap 2;down", 6);
        faultOf(x, "nap 2;dow", 9);
        faultOf(x, "stile", NONE);
        for (int p = 0; p < 6; p++) x.person(0, 0);
        faultOf(x, "person 0 0", 0);
        faultOf(x, "nap 2;person", 6);
        faultOf(x, "nap 2;perso.", 11);
    }

    private static void acts() {
        CarriedAsFarAsTheStile x = new CarriedAsFarAsTheStile();
        faultOf(x, "act 6", 4);
        faultOf(x, "act 0", 4);
        faultOf(x, "up 1;act 0", 9);
        faultOf(x, "up 1;act 6x", 10);
        faultOf(x, "up 1;act 6;act 06", 15);
        Due.due("HERE", x.status(2), 0);
        faultOf(x, "act 9;act 9;up 1;act 06;up 1;up 1;person 3 0;act 7;act 0", NONE);
        Due.due("HERE then", x.status(2), 3);
        Due.due("MINUTES then", x.status(3), 10 + 10 + 10 + 10 + 8);
        Due.due("BISCUITS then", x.status(9), 1);
        Due.due("he is as tired", x.personOf(0, 2), 3);
        faultOf(x, "act 9", 4);
        faultOf(x, "stile;act 9", NONE);
        Due.due("rested", x.status(3), 58);
    }

    private static void nothingIsChangedByAFault() {
        CarriedAsFarAsTheStile x = Due.told("up 1;up 1;person 0 1;tired 0 9");
        int[] was = new int[21];
        for (int w = 0; w < 21; w++) was[w] = x.status(w);
        faultOf(x, "stile;up 1;person 1 1;tired 0 5;bag 0;legs 1;nap 1;worn 30;biscuits 0;races 0;act 0;up 4", 87);
        for (int w = 0; w < 21; w++) {
            Due.due("status(" + w + ") stays", x.status(w), w == 16 ? was[w] + 1 : was[w]);
        }
        Due.due("tired stays", x.personOf(0, 2), 9);
        Due.due("no bag", x.personOf(0, 3), 0);
        Due.due("stile stays", x.furlongOf(1, 1), 0);
    }

    private static void otherSorts() {
        for (int sort = 0; sort < 4; sort++) {
            CarriedAsFarAsTheStile x = new CarriedAsFarAsTheStile();
            Due.text(x, 0, sort, "up 2;person 2 3");
            if (sort == 3) x.set(0, 0, 'u' + (5L << 32));
            Due.due("text of sort " + sort, x.way(0), 2);
            Due.due("furlong by sort " + sort, x.furlongOf(0, 0), 2);
            x.set(0, 1, 'p' + 256);
            Due.due("256 more in sort " + sort, x.way(0), sort == 0 ? 2 : -6);
            Due.due("its fault", x.fault(), sort == 0 ? NONE : 1);
        }
    }

    private static void refused() {
        CarriedAsFarAsTheStile x = new CarriedAsFarAsTheStile();
        x.person(0, 0);
        x.show(1, 0);
        faultOf(x, "up 1;x", 5);
        Due.due("way(8)", x.way(8), -1);
        Due.due("way(-1)", x.way(-1), -1);
        Due.due("way of a person", x.way(1), -2);
        Due.due("way of nothing", x.way(2), -3);
        Due.due("the fault stays while no row is come to", x.fault(), 5);
        Due.refusals("way", x, 2, 1, 1, 0, 0, 1, 0);
        faultOf(x, "up 1", NONE);
        longest();
    }

    private static void longest() {
        StringBuilder b = new StringBuilder("up 1");
        for (int i = 0; i < 26; i++) b.append(";nap 1");
        Due.due("its length", b.length(), 160);
        faultOfNew(b.toString(), NONE);
        b.insert(3, '0').setLength(160);
        faultOfNew(b.toString(), 160);
        b.setCharAt(159, 'x');
        faultOfNew(b.toString(), 159);
    }
}
