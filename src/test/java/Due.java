/** Counts the answers that are not as due, and ends the test by that. */
final class Due {
    private static int wrong = 0;
    private static int asked = 0;

    private Due() {
    }

    static void due(String call, long got, long want) {
        asked++;
        if (got != want) {
            wrong++;
            if (wrong <= 50) {
                System.out.println(call + " answered " + got + ", due is " + want);
            }
        }
    }

    static int wrong() {
        return wrong;
    }

    static void end() {
        System.out.println(wrong == 0 ? asked + " answers are as due" : wrong + " of " + asked + " answers are not as due");
        if (wrong != 0) {
            System.exit(1);
        }
    }

    /** Puts a text into a shelf as a row of a sort. */
    static void text(CarriedAsFarAsTheStile x, int s, int sort, String text) {
        x.row(s, sort, text.length());
        for (int i = 0; i < text.length(); i++) {
            x.set(s, i, text.charAt(i));
        }
    }

    /** Puts numbers into a shelf as a row of ints. */
    static void numbers(CarriedAsFarAsTheStile x, int s, int... numbers) {
        x.row(s, 2, numbers.length);
        for (int i = 0; i < numbers.length; i++) {
            x.set(s, i, numbers[i]);
        }
    }

    /** A new object on which a text has been told. */
    static CarriedAsFarAsTheStile told(String text) {
        CarriedAsFarAsTheStile x = new CarriedAsFarAsTheStile();
        text(x, 7, 0, text);
        int items = text.split(";", -1).length;
        due("way \"" + text + "\"", x.way(7), items);
        x.show(7, -1);
        return x;
    }

    /** The refusals, one digit or more each, from -1 to -7. */
    static void refusals(String when, CarriedAsFarAsTheStile x, int... want) {
        for (int i = 0; i < 7; i++) {
            due(when + ": status(" + (11 + i) + ")", x.status(11 + i), want[i]);
        }
    }
}
