/** Promises 20 to 27: ways. The crossings of a city of 3 by 3: 0 1 2, 3 4 5, 6 7 8; of 2 by 2: 0 1, 2 3. */
public final class WaysTest {
    private static final Check CHECK = new Check("WaysTest");
    private static final String OPEN = "city 3 3; person 1 1 north;";
    /** Going west along the upper edge: there is straight on, and then nothing without a left. */
    private static final String NARROW = "city 2 2; person 1 0 west;";

    public static void main(String[] args) {
        ways();
        waysByHour();
        waysAreBounded();
        backAndForth();
        waysWithinTheirLefts();
        afterDeeds();
        wrongWays();
        fewest();
        cheapest();
        counted();
        reached();
        byRights();
        CHECK.end();
    }

    private static void due(String call, long got, long want) {
        CHECK.due(call, got, want);
    }

    private static void way(LeftTurns x, int c, int k, int... turns) {
        String told = "to " + c + " with " + k;
        due("way " + told, x.way(0, c, k), turns.length);
        for (int i = 0; i < turns.length; i++) {
            due("turn " + i + " " + told, x.turn(0, c, k, i), turns[i]);
        }
        due("turn behind " + told, x.turn(0, c, k, turns.length), -1);
        due("turn far behind " + told, x.turn(0, c, k, Integer.MAX_VALUE), -1);
    }

    private static void ways() {
        LeftTurns x = Check.city(OPEN);
        way(x, 4, 0);
        way(x, 1, 0, 0);
        way(x, 5, 0, 1);
        way(x, 3, 0, 0, 1, 1, 1, 0);
        way(x, 3, 1, 2);
        way(x, 3, 120, 2);
        way(x, 7, 0, 1, 1, 1);
        way(x, 7, 1, 1, 1, 1);
        way(x, 7, 2, 3);
        way(x, 0, 0, 0, 1, 1, 1, 0, 1);
        way(x, 0, 1, 0, 2);
        due("nothing has changed", x.count(3), 0);
        due("nobody has gone", x.person(0, 0), 4);
        LeftTurns y = Check.city(NARROW);
        due("there is none", y.way(0, 3, 0), -1);
        due("turn of none", y.turn(0, 3, 0, 0), -1);
        way(y, 3, 1, 2);
        way(y, 2, 1, 0, 2);
    }

    private static void waysByHour() {
        LeftTurns x = Check.city(NARROW + " may: hour = 1; hour 24;");
        way(x, 2, 1, 0, 2);
        due("not in this hour", x.way(0, 3, 1), -1);
        due("back in the next one", x.fewest(0, 3, 60), 2);
        LeftTurns y = Check.city(NARROW + " may: hour = 1 and head = 2;");
        due("never by then", y.way(0, 3, 120), -1);
        x.hours(1);
        way(x, 3, 1, 2);
        LeftTurns z = Check.city(NARROW + " may: sold > 0; person 0 0 west coins 5;");
        due("none as nothing is sold", z.way(0, 2, 9), -1);
        z.buy(1, 1);
        way(z, 2, 1, 0, 2);
        due("none where nothing is sold", z.way(0, 3, 1), -1);
    }

    /** In the third day only one may turn left: too late for 60 streets, in time for a later call. */
    private static void waysAreBounded() {
        LeftTurns x = Check.city("city 3 3; person 1 1 north; wall 0 0 1; wall 0 0 2; wall 0 1 2; wall 0 1 1; may: day > 2;");
        due("nobody gets to 0", x.way(0, 0, 120), -1);
        LeftTurns y = Check.city("city 3 3; person 1 1 north; wall 0 0 2; may: hour = 12 and day = 2;");
        due("right to 0 isn't to be had", y.fewest(0, 0, 59), -1);
        due("in 60 streets neither", y.fewest(0, 0, 60), -1);
        y.hours(1);
        due("an hour later there is one of 60", y.fewest(0, 0, 60), 1);
        due("its streets", y.way(0, 0, 1), 60);
        due("of 59 there is none", y.fewest(0, 0, 59), -1);
        due("with it 0 is reached", y.reach(0, 1), 511);
        due("without it is not", y.reach(0, 0), 510);
        due("enough for all", y.enough(0), 1);
        Model model = Check.model("city 3 3; person 1 1 north; wall 0 0 2; may: hour = 12 and day = 2; hour 1;");
        String turns = model.path(0, 0, 1);
        due("its streets by the model", turns.length(), 60);
        for (int i = 0; i < 60; i++) {
            due("turn " + i + " of " + turns, y.turn(0, 0, 1, i), turns.charAt(i) - '0');
        }
        due("an hour later it is too late by one", y.hours(59), 60);
        due("turn", y.turn(0, 0, 1, 0), model.hours(59) > 0 ? model.turn(0, 0, 1, 0) : 0);
    }

    /** Two crossings in a row: there is nothing but back, 120 lefts in 60 streets. */
    private static void backAndForth() {
        LeftTurns x = Check.city("city 2 2; person 0 0 west; wall 0 0 2; wall 1 0 2;");
        due("nobody gets to 3", x.way(0, 3, 120), -1);
        due("fewest", x.fewest(0, 3, 60), -1);
        due("cheapest", x.cheapest(0, 3, 60), -1);
        due("reach", x.reach(0, 120), 3);
        due("with one", x.reach(0, 1), 1);
        due("enough", x.enough(0), 2);
        due("twenty", x.ways(0, 0, 20, 40), 1);
        due("twenty with fewer", x.ways(0, 0, 20, 39), 0);
        due("nineteen", x.ways(0, 1, 19, 38), 1);
        way(x, 1, 2, 3);
        LeftTurns y = Check.city("city 3 2; person 1 0 east; wall 2 0 2; wall 1 0 2;");
        way(y, 0, 2, 3);
        LeftTurns z = Check.city("city 3 2; person 1 0 east; wall 2 0 2; wall 1 0 2; may: not x = 1;");
        way(z, 0, 2, 0, 3, 0);
        due("with fewer", z.way(0, 0, 1), -1);
        way(z, 3, 3, 0, 3, 0, 2);
        way(z, 3, 120, 0, 3, 0, 2);
    }

    /** Ways whose later turns must keep within what the earlier ones leave. */
    private static void waysWithinTheirLefts() {
        way(Check.city("city 3 3; person 0 1 west; wall 0 0 2; free 2 1;"), 0, 3, 3, 0, 2, 2, 0);
        way(Check.city("city 3 3; person 1 0 north; wall 0 1 0; wall 2 0 3; wall 2 1 0; wall 2 1 1; free 1 2;"), 5, 2, 3, 0, 3, 1);
        way(Check.city("city 3 2; person 2 0 west; may: not head = 2;"), 4, 2, 0, 0, 3, 1);
        way(Check.city("city 3 2; person 0 0 north; wall 1 1 0; may: not hour = 0;"), 3, 3, 1, 3, 2);
        way(Check.city("city 3 3; person 2 2 west; wall 2 2 3; may: not head = 3;"), 0, 2, 1, 0, 3, 1, 0, 1);
        // Back and forth till the hour comes in which one may turn left.
        LeftTurns x = Check.city("city 2 2; person 1 0 west; wall 1 0 2; may: head = 1 or head = 3 or hour = 5;");
        way(x, 2, 9, 0, 3, 3, 3, 3, 2);
        way(x, 2, 120, 0, 3, 3, 3, 3, 2);
        due("with fewer", x.way(0, 2, 8), -1);
        due("fewest", x.fewest(0, 2, 60), 9);
        due("one more to 3", x.enough(0), 10);
    }

    /** What was worked out ahead of a deed is of no use behind it. Here one may turn left in the hour 1 alone. */
    private static void afterDeeds() {
        for (int deed = 0; deed < 6; deed++) {
            LeftTurns x = Check.city(NARROW + " person 0 1 north; may: hour = 1;");
            x.image(0);
            Check.tray(x, 0, 1);
            Check.tray(x, 1, 1, 0);
            mayTurn(x, false);
            switch (deed) {
                case 0 -> due("go", x.go(1, 0), 0);
                case 1 -> due("walk", x.walk(1), 1);
                case 2 -> due("week", x.week(Check.seedOf(3), 1), 1);
                case 3 -> due("hours", x.hours(1), 1);
                case 4 -> due("city", Check.read(x, NARROW + " may: hour = 1; hour 1;"), 4);
                default -> {
                    x.hours(1);
                    x.image(1);
                    x.undo(1);
                    mayTurn(x, false);
                    due("restore", x.restore(1), 0);
                }
            }
            mayTurn(x, true);
            if (deed < 4) {
                due("undo", x.undo(1), 0);
            } else {
                due("restore", x.restore(0), 0);
            }
            mayTurn(x, false);
        }
        LeftTurns y = Check.city(NARROW + " person 1 0 west coins 9; may: sold = 1;");
        Check.tray(y, 0, 1);
        mayTurn(y, false);
        y.buy(1, 1);
        mayTurn(y, true);
        y.fog(1, 1);
        due("free in fog", y.fewest(0, 3, 1), 0);
        due("no envelope in fog", y.found(0, 0, 1), 0);
    }

    private static void mayTurn(LeftTurns x, boolean may) {
        due("fewest", x.fewest(0, 3, 1), may ? 1 : -1);
        due("ways", x.ways(0, 3, 1, 1), may ? 1 : 0);
        due("cheapest", x.cheapest(0, 3, 1), may ? 1 : -1);
        due("found", x.found(0, 0, 1), may ? 8 : 0);
        due("makeFree", x.makeFree(0, 3, 1, 1), may ? 2 : -1);
        due("bestCorner", x.bestCorner(0, 3, 1), may ? 1 : -1);
        due("turn", x.turn(0, 3, 1, 0), may ? 2 : x.way(0, 3, 1) < 0 ? -1 : 0);
    }

    private static void wrongWays() {
        LeftTurns x = Check.city(OPEN);
        int[][] wrong = {{1, 4}, {-1, 4}, {0, 9}, {0, -1}};
        for (int[] w : wrong) {
            due("way", x.way(w[0], w[1], -1), -2);
            due("turn", x.turn(w[0], w[1], -1, -1), -2);
            due("fewest", x.fewest(w[0], w[1], -1), -2);
            due("cheapest", x.cheapest(w[0], w[1], -1), -2);
            due("ways", x.ways(w[0], w[1], -1, -1), -2);
        }
        due("way k", x.way(0, 0, -1), -3);
        due("way k", x.way(0, 0, 121), -3);
        due("turn k", x.turn(0, 0, -1, 0), -3);
        due("turn k", x.turn(0, 0, 121, 0), -3);
        due("turn i", x.turn(0, 0, 0, -1), -3);
        due("fewest n", x.fewest(0, 0, -1), -3);
        due("fewest n", x.fewest(0, 0, 61), -3);
        due("cheapest n", x.cheapest(0, 0, -1), -3);
        due("cheapest n", x.cheapest(0, 0, 61), -3);
        due("ways n", x.ways(0, 0, -1, 0), -3);
        due("ways n", x.ways(0, 0, 21, 0), -3);
        due("ways k", x.ways(0, 0, 0, -1), -3);
        due("ways k", x.ways(0, 0, 0, 41), -3);
        due("reach p", x.reach(1, -1), -2);
        due("reach k", x.reach(0, -1), -3);
        due("reach k", x.reach(0, 121), -3);
        due("enough p", x.enough(1), -2);
        due("enough p", x.enough(-1), -2);
        due("byRights c", x.byRights(9, 0), -2);
        due("byRights c", x.byRights(-1, 0), -2);
        due("byRights direction", x.byRights(0, 4), -2);
        due("byRights direction", x.byRights(0, -1), -2);
    }

    private static void fewest() {
        LeftTurns x = Check.city(OPEN);
        due("where it is", x.fewest(0, 4, 0), 0);
        due("within none", x.fewest(0, 3, 0), -1);
        due("a left", x.fewest(0, 3, 1), 1);
        due("a left still", x.fewest(0, 3, 4), 1);
        due("by rights", x.fewest(0, 3, 5), 0);
        due("back", x.fewest(0, 7, 1), 2);
        due("back still", x.fewest(0, 7, 2), 2);
        due("by rights", x.fewest(0, 7, 3), 0);
        LeftTurns y = Check.city(NARROW);
        due("a left at the corner", y.fewest(0, 2, 60), 1);
        y.fog(0, 1);
        due("the fog is over by then", y.fewest(0, 2, 2), 1);
        y.fog(0, 2);
        due("the fog is there still", y.fewest(0, 2, 2), 0);
        due("free told", Check.city(NARROW + " free 0 0;").fewest(0, 2, 2), 0);
        due("lefts that it has don't count", Check.city("city 2 2; person 1 0 west lefts 9;").fewest(0, 2, 2), 1);
        due("by no law", Check.city(NARROW + " free 0 0; free 1 0; may: 0 = 1;").fewest(0, 2, 60), -1);
    }

    private static void cheapest() {
        LeftTurns x = Check.city(OPEN + " price: 5 + head + hour * 10;");
        due("where it is", x.cheapest(0, 4, 0), 0);
        due("within none", x.cheapest(0, 3, 0), -1);
        due("a left, going west", x.cheapest(0, 3, 1), 8);
        due("back, going south", x.cheapest(0, 7, 1), 14);
        due("by rights", x.cheapest(0, 3, 5), 0);
        LeftTurns y = Check.city(NARROW + " price: 9 - 4 * hour;");
        due("the earlier left is dearer", y.cheapest(0, 2, 2), 5);
        y.fog(0, 2);
        due("free in fog", y.cheapest(0, 2, 2), 0);
        LeftTurns z = Check.city("city 2 2; person 1 0 west coins 9; price: 3 + sold + x;");
        due("at one of two", z.cheapest(0, 2, 60), 3);
        z.buy(0, 1);
        due("sold as now", z.cheapest(0, 3, 1), 5);
        due("the fewest coins, not lefts", Check.city(NARROW + " price: 9 * x;").cheapest(0, 3, 3), 0);
        due("no way", Check.city(NARROW + " may: 0 = 1;").cheapest(0, 3, 60), -1);
        due("the dearest", Check.city(NARROW + " price: 999 * 999 * 9;").cheapest(0, 3, 1), 1000000);
    }

    private static void counted() {
        LeftTurns x = Check.city(OPEN);
        due("none gone", x.ways(0, 4, 0, 0), 1);
        due("none gone", x.ways(0, 1, 0, 40), 0);
        long[] andBack = {0, 0, 2, 3, 4, 4};
        for (int k = 0; k < andBack.length; k++) {
            due("out and back with " + k, x.ways(0, 4, 2, k), andBack[k]);
        }
        due("clockwise rounds", x.ways(0, 4, 4, 0), 2);
        due("of just so many", x.ways(0, 4, 3, 40), 0);
        due("all of twenty", x.ways(0, 4, 20, 40), 4L << 27);
        due("all but the one of twenty backs", x.ways(0, 4, 20, 39), (4L << 27) - 1);
        due("free ones take none", Check.city(OPEN + " free 1 1; free 1 0; free 0 1; free 1 2; free 2 1;").ways(0, 4, 2, 0), 4);
        due("by the law", Check.city(OPEN + " may: head = 3;").ways(0, 4, 2, 40), 1);
        due("by the law and the hour", Check.city(OPEN + " may: hour = 0;").ways(0, 4, 2, 40), 0);
    }

    private static void reached() {
        LeftTurns x = Check.city(OPEN);
        due("all by rights", x.reach(0, 0), 511);
        due("enough", x.enough(0), 0);
        LeftTurns y = Check.city(NARROW);
        due("without lefts", y.reach(0, 0), 3);
        due("with one", y.reach(0, 1), 15);
        due("with all", y.reach(0, 120), 15);
        due("enough", y.enough(0), 1);
        LeftTurns z = Check.city(NARROW + " may: 0 = 1;");
        due("by no law", z.reach(0, 120), 3);
        due("enough for those", z.enough(0), 0);
        LeftTurns w = Check.city("city 2 2; person 0 0 west; wall 0 0 2;");
        due("stuck", w.reach(0, 1), 1);
        due("back only", w.reach(0, 2), 15);
        due("enough", w.enough(0), 2);
    }

    private static void byRights() {
        LeftTurns x = Check.city(OPEN + " may: 0 = 1; free 1 1;");
        for (int d = 0; d < 4; d++) {
            due("byRights(4, " + d + ")", x.byRights(4, d), 5);
        }
        due("southward at 1", x.byRights(1, 2), 5);
        due("no street goes left", x.byRights(0, 0), -1);
        due("no street goes left", x.byRights(0, 1), -1);
        due("stuck at once", x.byRights(0, 3), -1);
        LeftTurns y = Check.city(NARROW);
        due("stuck", y.byRights(1, 3), -1);
        due("by none", y.byRights(3, 0), -1);
        LeftTurns z = Check.city("city 3 2; wall 1 0 2;");
        due("a left that is a wall", z.byRights(1, 3), -1);
        due("beside it", z.byRights(1, 2), -1);
    }
}
