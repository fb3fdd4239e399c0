/** Promises 28 to 33: errands, corners, dealings. */
public final class ErrandsTest {
    private static final Check CHECK = new Check("ErrandsTest");
    private static final String OPEN = "city 3 3; person 1 1 north;";
    private static final String NARROW = "city 2 2; person 1 0 west;";

    public static void main(String[] args) {
        rounds();
        roundsByHour();
        wrongRounds();
        corners();
        wrongCorners();
        bestCorners();
        dealings();
        cheap();
        affords();
        CHECK.end();
    }

    private static void due(String call, long got, long want) {
        CHECK.due(call, got, want);
    }

    private static void round(LeftTurns x, int lefts, int streets, int... order) {
        due("lefts together", x.round(0, 0, 0), lefts);
        due("streets together", x.round(0, 0, 1), streets);
        for (int k = 0; k < order.length; k++) {
            due("the " + k + "-th", x.round(0, 0, 10 + k), order[k]);
        }
        due("not so many", x.round(0, 0, 10 + order.length), -1);
        due("not so many", x.round(0, 0, Integer.MAX_VALUE), -1);
    }

    private static void rounds() {
        LeftTurns x = Check.city(OPEN);
        Check.tray(x, 0, 4);
        round(x, 0, 0, 4);
        Check.tray(x, 0, 3);
        round(x, 0, 5, 3);
        Check.tray(x, 0, 3, 1);
        round(x, 0, 5, 1, 3);
        Check.tray(x, 0, 1, 1, 4);
        round(x, 0, 1, 4, 1, 1);
        // To 7 (3 streets, westward), then on to 6, 3, 0 clockwise.
        Check.tray(x, 0, 0, 3, 6, 7);
        round(x, 0, 6, 7, 6, 3, 0);
        LeftTurns y = Check.city(NARROW);
        Check.tray(y, 0, 0, 3);
        round(y, 1, 3, 3, 0);
        Check.tray(y, 0, 1, 1, 1, 1);
        round(y, 0, 0, 1, 1, 1, 1);
        due("nothing has changed", y.person(0, 0), 1);
        due("no hours have gone by", y.count(3), 0);
    }

    /** The second leg begins in the hour in which the first one ends. */
    private static void roundsByHour() {
        LeftTurns x = Check.city(NARROW + " may: hour = 1;");
        Check.tray(x, 0, 0, 2);
        round(x, 1, 2, 0, 2);
        LeftTurns y = Check.city(NARROW + " may: hour = 0;");
        Check.tray(y, 0, 0, 3);
        round(y, 1, 3, 3, 0);
        Check.tray(y, 0, 0, 1);
        round(y, 0, 1, 1, 0);
        LeftTurns z = Check.city(NARROW + " may: 0 = 1;");
        Check.tray(z, 0, 0, 3);
        due("no order", z.round(0, 0, 0), -1);
        due("no order", z.round(0, 0, 1), -1);
        due("no order", z.round(0, 0, 10), -1);
    }

    private static void wrongRounds() {
        LeftTurns x = Check.city(OPEN);
        due("missing", x.round(0, 0, 0), -6);
        due("nobody, ahead of that", x.round(1, 0, 0), -2);
        due("nobody", x.round(-1, 0, 0), -2);
        due("no tray", x.round(0, 4, 0), -2);
        due("no tray", x.round(0, -1, 0), -2);
        for (int what : new int[] {-1, 2, 5, 9, Integer.MIN_VALUE}) {
            due("what " + what, x.round(0, 0, what), -2);
        }
        x.numbers(0, 0, 0);
        due("none", x.round(0, 0, 0), -4);
        Check.tray(x, 0, 9, 9, 9, 9, 9);
        due("five, ahead of no crossing", x.round(0, 0, 0), -4);
        Check.tray(x, 0, 0, 9);
        due("no crossing", x.round(0, 0, 0), -3);
        Check.tray(x, 0, -1);
        due("no crossing", x.round(0, 0, 0), -3);
        Check.tray(x, 0, 1L << 32);
        due("no crossing", x.round(0, 0, 0), -3);
    }

    private static void freed(LeftTurns x, int c, int n, int many, int bits) {
        due("how many to " + c + " in " + n, x.makeFree(0, c, n, 0), many);
        due("which to " + c + " in " + n, x.makeFree(0, c, n, 1), bits);
    }

    private static void corners() {
        LeftTurns x = Check.city(NARROW);
        freed(x, 1, 0, 0, 0);
        freed(x, 0, 1, 0, 0);
        freed(x, 3, 0, -1, -1);
        freed(x, 3, 1, 1, 2);
        freed(x, 2, 1, -1, -1);
        freed(x, 2, 2, 1, 1);
        freed(x, 2, 20, 1, 1);
        LeftTurns y = Check.city(NARROW + " may: x = 0 and [head = 2 or y = 1];");
        freed(y, 3, 2, -1, -1);
        freed(y, 3, 3, 2, 5);
        LeftTurns z = Check.city(NARROW + " may: x = 0 and [head = 2 or y = 1]; free 0 0;");
        freed(z, 3, 3, 1, 4);
        freed(Check.city(NARROW + " may: 0 = 1;"), 3, 20, -1, -1);
        freed(Check.city("city 2 2; person 1 1 north; wall 0 1 1;"), 2, 3, 2, 3);
        LeftTurns w = Check.city(NARROW);
        w.fog(1, 1);
        freed(w, 3, 1, 0, 0);
        w.hours(1);
        freed(w, 3, 1, 1, 2);
        // Westward along the lower edge of a narrow city every corner of the way round wants a left: three are too many.
        LeftTurns v = Check.city("city 2 2; person 0 0 west; may: head = (3 - 2 * y - x) * (3 - 2 * y - x) * 0 + 2 and x = 0 and y = 0"
            + " or head = 1 and x = 0 and y = 1 or head = 0 and x = 1 and y = 1;");
        freed(v, 3, 2, 2, 5);
        freed(v, 1, 20, -1, -1);
    }

    private static void wrongCorners() {
        LeftTurns x = Check.city(NARROW);
        due("nobody", x.makeFree(1, 0, -1, 0), -2);
        due("nobody", x.makeFree(-1, 0, 1, 0), -2);
        due("no crossing", x.makeFree(0, 4, 1, 0), -2);
        due("no crossing", x.makeFree(0, -1, 1, 0), -2);
        due("what, ahead of n", x.makeFree(0, 0, -1, 2), -2);
        due("what", x.makeFree(0, 0, 1, -1), -2);
        due("n", x.makeFree(0, 0, -1, 0), -3);
        due("n", x.makeFree(0, 0, 21, 0), -3);
        due("nobody", x.bestCorner(1, 0, -1), -2);
        due("nobody", x.bestCorner(-1, 0, 1), -2);
        due("no crossing", x.bestCorner(0, 4, 1), -2);
        due("no crossing", x.bestCorner(0, -1, 1), -2);
        due("n", x.bestCorner(0, 0, -1), -3);
        due("n", x.bestCorner(0, 0, 31), -3);
    }

    private static void bestCorners() {
        LeftTurns x = Check.city(NARROW);
        due("the one at hand", x.bestCorner(0, 3, 1), 1);
        due("the first of two", x.bestCorner(0, 2, 2), 0);
        due("nothing to lower", x.bestCorner(0, 0, 30), -1);
        due("no way", x.bestCorner(0, 3, 0), -1);
        due("no way", Check.city(NARROW + " may: 0 = 1;").bestCorner(0, 3, 30), -1);
        due("the first of those that lower by one",
            Check.city(NARROW + " may: x = 0 and [head = 2 or y = 1];").bestCorner(0, 3, 3), 0);
        // Southward at the lower right: a left at none, back at 3 for two; then by 1 westward on to 0.
        LeftTurns y = Check.city("city 2 2; person 1 1 south; wall 1 1 3;");
        due("two are the fewest to 1", y.fewest(0, 1, 1), 2);
        due("the corner that lowers most", y.bestCorner(0, 0, 2), 3);
    }

    private static void deal(String price, int direction, long... want) {
        LeftTurns x = Check.city("city 2 2; price: " + price + ";");
        for (int what = 0; what < 3; what++) {
            due("dealing by " + price + ", " + what, x.dealing(0, direction, what), want[what]);
        }
    }

    private static void dealings() {
        deal("hour", 0, 23, 0, 23);
        deal("hour; hour 5", 0, 18, 0, 18);
        deal("hour; hour 20", 0, 19, 4, 23);
        deal("hour * head", 0, 0, -1, -1);
        deal("hour * head", 2, 46, 0, 23);
        deal("7", 0, 0, -1, -1);
        deal("99 - hour", 0, 0, -1, -1);
        deal("(hour - 12) * (hour - 12)", 0, 121, 12, 23);
        deal("hour * (12 - hour)", 0, 36, 0, 6);
        deal("(hour - 1) * (hour - 2) * (hour - 4) * (5 - hour) + 50", 0, 40, 0, 1);
        deal("day * 10; hour 20", 1, 10, 0, 4);
        LeftTurns x = Check.city("city 2 2;");
        due("no crossing", x.dealing(4, 0, 0), -2);
        due("no crossing", x.dealing(-1, 0, 0), -2);
        due("no direction", x.dealing(0, 4, 0), -2);
        due("no direction", x.dealing(0, -1, 0), -2);
        due("what", x.dealing(0, 0, 3), -2);
        due("what", x.dealing(0, 0, -1), -2);
    }

    private static void cheap() {
        due("no law", Check.city("city 3 3;").cheap(), 0);
        due("the first of a column", Check.city("city 3 3; price: 5 - x;").cheap(), 2);
        due("the last", Check.city("city 5 5; price: 50 - x - y;").cheap(), 24);
        due("nothing is below 0", Check.city("city 3 3; price: 1 - x;").cheap(), 1);
        LeftTurns x = Check.city("city 2 2; price: 3 + sold + hour * x; person 0 0 west coins 99;");
        due("now", x.cheap(), 0);
        x.buy(0, 1);
        due("where none was sold", x.cheap(), 1);
        x.hours(9);
        due("in another hour", x.cheap(), 2);
    }

    private static void affords() {
        LeftTurns x = Check.city("city 2 2; price: 3 + sold + head; person 0 0 north coins 11; person 1 0 north coins 12;"
            + " person 1 1 west coins 5; person 0 1 west coins 6;");
        due("two", x.affords(0), 2);
        due("three", x.affords(1), 3);
        due("none, heading so", x.affords(2), 0);
        due("one", x.affords(3), 1);
        due("nothing has changed", x.count(4), 0);
        due("nobody", x.affords(4), -2);
        due("nobody", x.affords(-1), -2);
        due("at most 99 together", Check.city("city 2 2; price: 0; person 0 0 north lefts 95;").affords(0), 4);
        due("at most 99", Check.city("city 2 2; person 0 0 north coins 999;").affords(0), 99);
        due("has 99", Check.city("city 2 2; person 0 0 north lefts 99 coins 999;").affords(0), 0);
    }
}
