/** Promises 1 to 8: a new object, shelves with rows and with people. */
public final class ShelvesTest {
    private static final int NONE = CarriedAsFarAsTheStile.NONE;

    public static void main(String[] args) {
        newObject();
        row();
        set();
        copy();
        copyRefused();
        element();
        show();
        says();
        Due.end();
    }

    /** Promise 1. */
    private static void newObject() {
        CarriedAsFarAsTheStile x = new CarriedAsFarAsTheStile();
        int[] want = {0, 0, 0, 0, 3, 0, 3, 4, 20, 2, 1, 0, 0, 0, 0, 0, 0, 0, 1, 0, 0};
        for (int w = 0; w < want.length; w++) Due.due("new: status(" + w + ")", x.status(w), want[w]);
        for (int s = 0; s < 8; s++) Due.due("new: holds(" + s + ")", x.holds(s), NONE);
        Due.due("new: bag(NONE)", x.bag(NONE), NONE);
        Due.due("new: fault()", x.fault(), NONE);
        Due.due("new: trace(0)", x.trace(0), NONE);
        Due.due("NONE", NONE, -1);
    }

    /** Promise 2. */
    private static void row() {
        CarriedAsFarAsTheStile x = new CarriedAsFarAsTheStile();
        for (int sort = 0; sort < 4; sort++) {
            Due.due("row of sort " + sort, x.row(sort, sort, 3), 1);
            Due.due("holds a row of sort " + sort, x.holds(sort), 100 + sort);
        }
        Due.due("row(7, 0, 160)", x.row(7, 0, 160), 1);
        Due.due("set(7, 159, 5)", x.set(7, 159, 5), 1);
        Due.due("row(7, 0, 160) again", x.row(7, 0, 160), 1);
        Due.due("its last element is 0 again", x.element(7, 159), 0);
        Due.due("row(7, 0, 0)", x.row(7, 0, 0), 1);
        Due.due("an empty row is held", x.holds(7), 100);
        Due.due("row(8, 9, -1)", x.row(8, 9, -1), -1);
        Due.due("row(-1, 0, 1)", x.row(-1, 0, 1), -1);
        Due.due("row(0, 9, -1)", x.row(0, 9, -1), -4);
        Due.due("row(0, 4, 161)", x.row(0, 4, 161), -6);
        Due.due("row(0, -1, 1)", x.row(0, -1, 1), -6);
        Due.due("row(0, 0, 161)", x.row(0, 0, 161), -7);
        Due.due("a refused row changes nothing", x.element(0, 0) + x.holds(0), 100);
        Due.refusals("row", x, 2, 0, 0, 1, 0, 2, 1);
    }

    /** Promise 3. */
    private static void set() {
        CarriedAsFarAsTheStile x = new CarriedAsFarAsTheStile();
        long v = 0x123456789ABCDEF0L;
        long[] want = {(byte) 0xF0, (short) 0xDEF0, 0x9ABCDEF0, v};
        for (int sort = 0; sort < 4; sort++) {
            x.row(sort, sort, 2);
            Due.due("set in sort " + sort, x.set(sort, 1, v), 1);
            Due.due("its lowest bits in sort " + sort, x.element(sort, 1), want[sort]);
            Due.due("the other stays in sort " + sort, x.element(sort, 0), 0);
        }
        x.person(0, 0);
        x.show(4, 0);
        Due.due("set(8, 0, 1)", x.set(8, 0, 1), -1);
        Due.due("set(-1, 0, 1)", x.set(-1, 0, 1), -1);
        Due.due("set(4, 9, 1)", x.set(4, 9, 1), -2);
        Due.due("set(5, 9, 1)", x.set(5, 9, 1), -3);
        Due.due("set(0, 2, 1)", x.set(0, 2, 1), -5);
        Due.due("set(0, -1, 1)", x.set(0, -1, 1), -5);
        Due.refusals("set", x, 2, 1, 1, 0, 2, 0, 0);
    }

    /** Promise 4. */
    private static void copy() {
        CarriedAsFarAsTheStile x = new CarriedAsFarAsTheStile();
        Due.numbers(x, 0, 1, 2, 3, 4, 5);
        Due.due("copy(0, 0, 0, 1, 4)", x.copy(0, 0, 0, 1, 4), 1);
        int[] up = {1, 1, 2, 3, 4};
        for (int i = 0; i < 5; i++) Due.due("copied up " + i, x.element(0, i), up[i]);
        Due.due("copy(0, 0, 1, 0, 4)", x.copy(0, 0, 1, 0, 4), 1);
        int[] down = {1, 2, 3, 4, 4};
        for (int i = 0; i < 5; i++) Due.due("copied down " + i, x.element(0, i), down[i]);
        Due.numbers(x, 1, 9, 9);
        Due.due("copy(0, 1, 3, 0, 2)", x.copy(0, 1, 3, 0, 2), 1);
        Due.due("copied across", x.element(1, 0) * 10 + x.element(1, 1), 44);
        Due.due("copy(0, 1, 5, 2, 0)", x.copy(0, 1, 5, 2, 0), 1);
    }

    private static void copyRefused() {
        CarriedAsFarAsTheStile x = new CarriedAsFarAsTheStile();
        x.row(0, 2, 5);
        x.row(1, 3, 5);
        x.row(2, 2, 2);
        x.person(0, 0);
        x.show(3, 0);
        Due.due("copy(8, 3, ..)", x.copy(8, 3, 0, 0, 1), -1);
        Due.due("copy(3, -1, ..)", x.copy(3, -1, 0, 0, 1), -1);
        Due.due("copy person to nothing", x.copy(3, 4, 0, 0, -1), -2);
        Due.due("copy nothing to person", x.copy(4, 3, 0, 0, -1), -2);
        Due.due("copy of two sorts", x.copy(0, 1, 0, 0, -1), -2);
        Due.due("copy row to nothing", x.copy(0, 4, 0, 0, -1), -3);
        Due.due("copy nothing to row", x.copy(4, 0, 0, 0, -1), -3);
        Due.due("copy n below 0", x.copy(0, 2, -1, 0, -1), -4);
        Due.due("copy i below 0", x.copy(0, 2, -1, 0, 0), -5);
        Due.due("copy j below 0", x.copy(0, 2, 0, -1, 0), -5);
        Due.due("copy beyond i", x.copy(0, 2, 4, 0, 2), -5);
        Due.due("copy beyond j", x.copy(0, 2, 0, 1, 2), -5);
        Due.due("copy of none beyond i", x.copy(0, 2, 6, 0, 0), -5);
        Due.due("copy far beyond", x.copy(0, 2, Integer.MAX_VALUE, 0, Integer.MAX_VALUE), -5);
        Due.refusals("copy", x, 2, 3, 2, 1, 6, 0, 0);
    }

    /** Promise 5. */
    private static void element() {
        CarriedAsFarAsTheStile x = new CarriedAsFarAsTheStile();
        Due.numbers(x, 0, 7);
        x.person(0, 0);
        x.show(1, 0);
        Due.due("element(0, 0)", x.element(0, 0), 7);
        Due.due("element(0, 1)", x.element(0, 1), 0);
        Due.due("element(0, -1)", x.element(0, -1), 0);
        Due.due("element(1, 0)", x.element(1, 0), 0);
        Due.due("element(2, 0)", x.element(2, 0), 0);
        Due.due("element(8, 0)", x.element(8, 0), 0);
        Due.due("element(-1, 0)", x.element(-1, 0), 0);
        Due.refusals("element", x, 0, 0, 0, 0, 0, 0, 0);
    }

    /** Promises 6 and 7. */
    private static void show() {
        CarriedAsFarAsTheStile x = new CarriedAsFarAsTheStile();
        x.person(0, 0);
        x.person(1, 0);
        Due.due("show(0, 1)", x.show(0, 1), 1);
        Due.due("holds(0)", x.holds(0), 1);
        Due.due("show(0, NONE)", x.show(0, NONE), 0);
        Due.due("holds nothing then", x.holds(0), NONE);
        Due.due("show over a row", x.row(1, 0, 4) + x.show(1, 0), 2);
        Due.due("the row is gone", x.holds(1), 0);
        Due.due("show(8, 0)", x.show(8, 0), -1);
        Due.due("show(0, 2)", x.show(0, 2), -1);
        Due.due("show(0, -2)", x.show(0, -2), -1);
        Due.due("holds(8)", x.holds(8), NONE);
        Due.due("holds(-1)", x.holds(-1), NONE);
        Due.refusals("show", x, 3, 0, 0, 0, 0, 0, 0);
    }

    /** Promise 8. */
    private static void says() {
        CarriedAsFarAsTheStile x = Due.told("person 0 0;person 1 0;person 2 0;person 3 0;person 4 0;person 6 0");
        for (int p = 0; p < 6; p++) {
            x.tire(p, 30 + p);
            x.show(p, p);
            Due.due("says(" + p + ", PERSON)", x.says(p, 0), 30 + p);
        }
        Due.due("STRONG rests", x.says(1, 1), 2);
        Due.due("FATHER rests, taken for STRONG", x.says(3, 1), 3);
        Due.due("FATHER rests", x.says(3, 3), 3);
        x.bag(3);
        Due.due("BAG aside", x.says(3, 3), 3);
        Due.due("STRANGE, she is awake", x.says(2, 2), 0);
        Due.due("SMALL", x.says(4, 4), 6);
        Due.due("GRAN taken for SMALL", x.says(5, 4), 9);
        Due.due("GRAN", x.says(5, 6), 9);
        x.bag(5);
        Due.due("GRAN with the BAG", x.says(5, 6), 11);
        Due.due("STRONG isn't FATHER", x.says(1, 3), -2);
        Due.due("SMALL isn't GRAN", x.says(4, 6), -2);
        Due.due("STRANGE isn't UNCLE", x.says(2, 5), -2);
        Due.due("PERSON isn't STRONG", x.says(0, 1), -2);
        Due.due("FATHER isn't SMALL", x.says(3, 4), -2);
        x.row(6, 0, 1);
        Due.due("says of a row", x.says(6, 0), -2);
        Due.due("says of nothing", x.says(7, 5), -3);
        Due.due("says(8, 0)", x.says(8, 0), -1);
        Due.due("says(6, 7)", x.says(6, 7), -1);
        Due.due("says(6, -1)", x.says(6, -1), -1);
        Due.refusals("says", x, 3, 6, 1, 0, 0, 0, 0);
        strangersSay();
    }

    private static void strangersSay() {
        CarriedAsFarAsTheStile x = Due.told("up 0;up 0;person 3 0;person 5 0;person 2 0;nap 2;worn 9");
        x.show(0, 1);
        x.show(1, 2);
        x.tire(1, 99);
        x.does(0);
        Due.due("UNCLE while ON is below NAP", x.says(0, 5), 0);
        x.does(0);
        Due.due("UNCLE, she is ASLEEP, whatever WORN is", x.says(0, 5), 1);
        Due.due("UNCLE taken for STRANGE", x.says(0, 2), 1);
        Due.due("STRANGE, she is ASLEEP", x.says(1, 2), 1);
    }
}
