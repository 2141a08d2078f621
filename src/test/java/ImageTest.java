/** Promises 40 to 42: the image, restoring, and what is counted. */
public final class ImageTest {
    private static final int NONE = CarriedAsFarAsTheStile.NONE;

    public static void main(String[] args) {
        allIsRestored();
        shelvesStay();
        othersStay();
        again();
        status();
        Due.end();
    }

    private static void allIsRestored() {
        CarriedAsFarAsTheStile x = Due.told("up 1;stile;up 2;up 0;up 0;person 3 4;person 0 5;tired 1 9;bag 1;legs 4;nap 5;worn 33;biscuits 4;races 6;act 0;act 0");
        x.seed(77);
        int[] was = new int[21];
        for (int w = 0; w < 21; w++) was[w] = x.status(w);
        int tired0 = x.personOf(0, 2);
        int tired1 = x.personOf(1, 2);
        Due.due("image()", x.image(), 2);
        x.summer(5);
        x.furlong(3, true);
        Due.text(x, 0, 0, "up 0;stile;person 4 1;bag 2;legs 1;nap 1;worn 1;biscuits 0;races 0");
        Due.due("way", x.way(0), 9);
        x.person(6, 6);
        x.tire(0, 90);
        x.tire(1, 91);
        x.day();
        Due.due("restore()", x.restore(), 2);
        for (int w = 0; w < 21; w++) Due.due("restored: status(" + w + ")", x.status(w), was[w]);
        Due.due("tired of 0", x.personOf(0, 2), tired0);
        Due.due("tired of 1", x.personOf(1, 2), tired1);
        Due.due("bag of 1", x.personOf(1, 3), 1);
        Due.due("kind of 0", x.personOf(0, 0), 3);
        Due.due("a of 1", x.personOf(1, 1), 5);
        Due.due("nobody more", x.personOf(2, 0), -5);
        Due.due("no furlong more", x.furlongOf(4, 0), -15);
        Due.due("stile of 3", x.furlongOf(3, 1), 0);
        Due.due("the next person is 2", x.person(1, 8), 2);
        Due.due("he is not tired", x.personOf(2, 2), 0);
        Due.due("the next furlong is 4", x.furlong(-1, false), 4);
        Due.due("its slope", x.furlongOf(4, 0), -1);
        Due.due("its stile", x.furlongOf(4, 1), 0);
        Due.due("restore() again", x.restore(), 2);
        Due.due("nobody more again", x.status(0), 2);
        Due.due("no furlong more again", x.status(1), 4);
    }

    private static void shelvesStay() {
        CarriedAsFarAsTheStile x = Due.told("person 0 0;person 1 0");
        x.image();
        x.person(2, 0);
        x.person(3, 0);
        x.show(0, 1);
        x.show(1, 2);
        x.show(2, 3);
        x.show(3, 0);
        Due.numbers(x, 4, 5, 6);
        x.restore();
        int[] want = {1, NONE, NONE, 0, 102, NONE, NONE, NONE};
        for (int s = 0; s < 8; s++) Due.due("restored: holds(" + s + ")", x.holds(s), want[s]);
        Due.due("the row stays", x.element(4, 1), 6);
        x.image();
        x.row(4, 0, 0);
        x.restore();
        Due.due("a new row stays", x.holds(4), 100);
        x.person(2, 0);
        Due.due("who comes again is not on the shelf", x.holds(1), NONE);
    }

    private static void othersStay() {
        CarriedAsFarAsTheStile x = Due.told("person 0 0");
        Due.due("restore() of none", x.restore(), -6);
        Due.due("it counts", x.status(16), 1);
        x.image();
        Due.text(x, 0, 0, "up 9");
        x.way(0);
        x.act(0, 2, 5);
        x.may(99);
        Due.due("restore()", x.restore(), 1);
        Due.due("the FAULT stays", x.fault(), 3);
        Due.due("REFUSALS stay", x.status(16), 3);
        Due.due("THE TRACE stays", x.trace(0), 12);
        Due.due("its length stays", x.status(19), 4);
    }

    private static void again() {
        CarriedAsFarAsTheStile x = new CarriedAsFarAsTheStile();
        Due.due("image() of nobody", x.image(), 0);
        x.person(0, 0);
        x.seed(5);
        Due.due("image() of one", x.image(), 1);
        x.person(0, 0);
        x.seed(6);
        Due.due("the latest image counts", x.restore(), 1);
        Due.due("its seed", x.status(18), 5);
        x.tire(0, 4);
        x.restore();
        Due.due("the image itself stays", x.personOf(0, 2), 0);
    }

    /** Promise 42. */
    private static void status() {
        CarriedAsFarAsTheStile x = Due.told("up 0;up 0;up 0;person 0 0;person 3 1;nap 2;legs 5;worn 30;biscuits 8;races 7;act 6;act 0;act 0");
        int[] want = {2, 3, 3, 22, 3, 2, 5, 2, 30, 8, 7};
        for (int w = 0; w < want.length; w++) Due.due("status(" + w + ")", x.status(w), want[w]);
        Due.due("ASLEEP", x.status(20), 1);
        Due.due("status(21)", x.status(21), NONE);
        Due.due("status(-1)", x.status(-1), NONE);
        Due.due("status(MIN)", x.status(Integer.MIN_VALUE), NONE);
        Due.due("status(MAX)", x.status(Integer.MAX_VALUE), NONE);
        Due.refusals("status", x, 0, 0, 0, 0, 0, 0, 0);
        x.holds(99);
        x.trace(99);
        x.row(9, 0, 0);
        x.bag(9);
        x.row(0, 0, 0);
        x.set(0, 0, 0);
        x.turn(9, 0);
        x.show(1, 0);
        x.set(1, 0, 0);
        x.set(2, 0, 0);
        x.row(3, 0, -1);
        x.row(3, 0, 999);
        Due.refusals("one of each, and those told ten farther down", x, 2, 1, 1, 1, 1, 1, 1);
    }
}
