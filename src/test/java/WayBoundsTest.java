/** The bounds of ways, errands and corners: promises 20 to 30. */
public final class WayBoundsTest {
    private static final Check CHECK = new Check("WayBoundsTest");
    private static final String OPEN = "city 3 3;person 1 1 north;";
    private static final String LARGE = "city 5 5;person 2 2 north;";
    /** Walls that leave one corridor from 0 inwards, clockwise, of 24 streets. */
    private static final String SPIRAL = "city 5 5;person 0 0 east;wall 0 0 2;wall 1 0 2;wall 2 0 2;wall 3 0 2;wall 3 1 1;wall 3 2 1;"
        + "wall 3 3 1;wall 1 3 2;wall 2 3 2;wall 3 3 2;wall 0 2 1;wall 0 3 1;wall 1 1 2;wall 2 1 2;wall 2 2 1;wall 2 2 2;";
    private static final int[] INWARDS = {0, 1, 2, 3, 4, 9, 14, 19, 24, 23, 22, 21, 20, 15, 10, 5, 6, 7, 8, 13, 18, 17, 16, 11, 12};

    public static void main(String[] args) {
        sixtyStreets();
        sixtyOneStreets();
        mostLefts();
        mostLeftsInOtherHours();
        noStreets();
        oneLeftMoreOrLess();
        turnsOfAWay();
        turnsAtFreeOnes();
        alongTheSpiral();
        fogOnTheWay();
        cheapestAtTheGate();
        twentyStreets();
        fortyLefts();
        moreThanAnInt();
        reachAtTheGate();
        reachOfAll();
        byRights();
        roundsOfOneToFour();
        roundsWhat();
        roundsOfSixtyStreets();
        roundsAllDay();
        roundsFirstByPlaces();
        cornersInTwenty();
        cornersAtMostTwo();
        bestCornerInThirty();
        bestCornerFirst();
        CHECK.end();
    }

    private static void due(String call, long got, long want) {
        CHECK.due(call, got, want);
    }

    /** The gate opens in the hour 59: the 60th street is the last one of a way. */
    private static void sixtyStreets() {
        LeftTurns x = Check.city(Gate.open(59));
        due("way with one", x.way(0, 5, 1), 60);
        due("way with 120", x.way(0, 5, 120), 60);
        due("way with none", x.way(0, 5, 0), -1);
        for (int i = 0; i < 59; i++) {
            due("turn " + i, x.turn(0, 5, 1, i), 1);
        }
        due("the last turn", x.turn(0, 5, 1, 59), 2);
        due("behind it", x.turn(0, 5, 1, 60), -1);
        due("in 60", x.fewest(0, 5, 60), 1);
        due("in 59", x.fewest(0, 5, 59), -1);
        due("cheapest in 60", x.cheapest(0, 5, 60), 1);
        due("cheapest in 59", x.cheapest(0, 5, 59), -1);
        x.numbers(0, 0, 40);
        due("as many as the tray has places", x.lists(0, 0, 5, 1), 40);
        CHECK.judged(x, 0, -1, 0, 4, 0);
    }

    private static void sixtyOneStreets() {
        LeftTurns x = Check.city(Gate.open(60));
        due("way", x.way(0, 5, 120), -1);
        due("turn", x.turn(0, 5, 120, 0), -1);
        due("fewest", x.fewest(0, 5, 60), -1);
        due("cheapest", x.cheapest(0, 5, 60), -1);
        x.numbers(0, 0, 40);
        due("lists", x.lists(0, 0, 5, 120), -5);
        due("an hour on its way", x.go(0, 1) >= 0 ? 1 : 0, 1);
        due("way from there", x.way(0, 5, 1), 60);
        due("fewest from there", x.fewest(0, 5, 60), 1);
    }

    /** 119 lefts in 60 streets. */
    private static void mostLefts() {
        LeftTurns x = Check.city(Gate.dearest() + "price:500*500*4;");
        for (int k = 117; k <= 120; k++) {
            due("way with " + k, x.way(0, 2, k), k < 119 ? -1 : 60);
            due("reach with " + k, x.reach(0, k), k < 119 ? 3 : 7);
            due("turn 58 with " + k, x.turn(0, 2, k, 58), k < 119 ? -1 : 3);
            due("turn 59 with " + k, x.turn(0, 2, k, 59), k < 119 ? -1 : 2);
            due("turn 60 with " + k, x.turn(0, 2, k, 60), -1);
        }
        due("fewest in 60", x.fewest(0, 2, 60), 119);
        due("fewest in 59", x.fewest(0, 2, 59), -1);
        due("enough", x.enough(0), 119);
        due("cheapest, a million each", x.cheapest(0, 2, 60), 119000000);
        due("one more street", x.way(0, 3, 120), -1);
    }

    private static void mostLeftsInOtherHours() {
        for (int hour = 1; hour <= 59; hour++) {
            LeftTurns x = Check.city(Gate.dearest() + "hour " + hour + ";");
            // One is at 0 behind odd numbers of streets.
            boolean comes = hour % 2 == 0;
            due("way from the hour " + hour, x.way(0, 2, 120), comes ? 60 - hour : -1);
            due("fewest", x.fewest(0, 2, 60), comes ? 2 * (59 - hour) + 1 : -1);
            // From 2 it is one left on to 3.
            due("enough", x.enough(0), comes ? 2 * (59 - hour) + 2 : 2);
        }
    }

    private static void noStreets() {
        LeftTurns x = Check.city(OPEN);
        for (int c = 0; c < 9; c++) {
            boolean there = c == 4;
            due("fewest in none to " + c, x.fewest(0, c, 0), there ? 0 : -1);
            due("cheapest in none to " + c, x.cheapest(0, c, 0), there ? 0 : -1);
            due("ways of none to " + c, x.ways(0, c, 0, 0), there ? 1 : 0);
            due("ways of none with 40 to " + c, x.ways(0, c, 0, 40), there ? 1 : 0);
            due("corners in none to " + c, x.makeFree(0, c, 0, 0), there ? 0 : -1);
            due("which", x.makeFree(0, c, 0, 1), there ? 0 : -1);
            due("best corner in none to " + c, x.bestCorner(0, c, 0), -1);
        }
        due("way to where it is", x.way(0, 4, 0), 0);
        due("turn of it", x.turn(0, 4, 0, 0), -1);
    }

    /** To 7: back at once, or a left and round by 3, 0 and 1; to 8 another left from there. */
    private static void oneLeftMoreOrLess() {
        LeftTurns x = Check.city(OPEN + "wall 1 0 1;wall 2 1 2;");
        int[] reach = {1 << 4 | 1 << 1 | 1 << 5, 255, 511, 511};
        for (int k = 0; k <= 3; k++) {
            due("reach with " + k, x.reach(0, k), reach[k]);
            due("to 3 with " + k, x.way(0, 3, k), k == 0 ? -1 : 1);
            due("to 7 with " + k, x.way(0, 7, k), k == 0 ? -1 : k == 1 ? 5 : 1);
        }
        due("fewest to 7 in 4", x.fewest(0, 7, 4), 2);
        due("fewest to 7 in 5", x.fewest(0, 7, 5), 1);
        due("enough", x.enough(0), 2);
    }

    private static void turnsOfAWay() {
        LeftTurns x = Check.city(OPEN);
        int[] turns = {0, 1, 1, 1, 0};
        due("streets to 3 by rights", x.way(0, 3, 0), turns.length);
        for (int i = 0; i < turns.length; i++) {
            due("turn " + i, x.turn(0, 3, 0, i), turns[i]);
        }
        for (int i : new int[] {5, 6, 59, 60, Integer.MAX_VALUE}) {
            due("turn " + i, x.turn(0, 3, 0, i), -1);
        }
        for (int i : new int[] {-1, Integer.MIN_VALUE}) {
            due("turn " + i, x.turn(0, 3, 0, i), -3);
        }
    }

    private static void way(String text, int c, int k, int... turns) {
        LeftTurns x = Check.city(text);
        due("streets by " + text, x.way(0, c, k), turns.length);
        for (int i = 0; i < turns.length; i++) {
            due("turn " + i + " by " + text, x.turn(0, c, k, i), turns[i]);
        }
        due("behind the last one", x.turn(0, c, k, turns.length), -1);
    }

    /** Lefts and backs at free crossings are turns of a way without lefts, also in its midst. */
    private static void turnsAtFreeOnes() {
        way("city 2 2;person 1 0 west;free 0 0;", 2, 0, 0, 2);
        way("city 2 2;person 0 1 east;free 1 1;", 1, 0, 0, 2);
        way("city 2 2;person 0 0 south;free 0 1;free 1 1;", 1, 0, 0, 2, 2);
        way("city 2 2;person 1 1 north;free 1 0;free 0 0;wall 1 1 3;", 2, 0, 0, 2, 2);
        way("city 3 2;person 1 0 east;wall 2 0 2;wall 1 0 2;free 2 0;", 0, 0, 0, 3, 0);
        way("city 3 2;person 1 0 east;wall 2 0 2;wall 1 0 2;free 2 0;free 0 0;", 3, 0, 0, 3, 0, 2);
        way("city 3 2;person 1 0 east;wall 2 0 2;wall 1 0 2;free 2 0;", 3, 1, 0, 3, 0, 2);
    }

    /** In a corridor every crossing has its number of streets; one street fewer won't do, by whatever lefts or corners. */
    private static void alongTheSpiral() {
        LeftTurns x = Check.city(SPIRAL);
        for (int i = 1; i < INWARDS.length; i++) {
            int c = INWARDS[i];
            due("streets to " + c, x.way(0, c, 0), i);
            due("streets to " + c + " with 120", x.way(0, c, 120), i);
            due("fewest in " + i, x.fewest(0, c, i), 0);
            due("fewest in one fewer", x.fewest(0, c, i - 1), -1);
            due("cheapest in " + i, x.cheapest(0, c, i), 0);
            due("cheapest in one fewer", x.cheapest(0, c, i - 1), -1);
            if (i <= 20) {
                due("ways of " + i, x.ways(0, c, i, 40), 1);
                due("ways of one fewer", x.ways(0, c, i - 1, 40), 0);
                due("corners in " + i, x.makeFree(0, c, i, 0), 0);
                due("corners in one fewer", x.makeFree(0, c, i - 1, 0), -1);
            }
        }
        due("in 20 to the 21st", x.makeFree(0, 17, 20, 0), -1);
        due("reach", x.reach(0, 0), (1 << 25) - 1);
        due("enough", x.enough(0), 0);
    }

    /** Hours go on as it goes: fog of i hours is gone in the i-th street behind the first one. */
    private static void fogOnTheWay() {
        for (int n = 1; n <= 8; n++) {
            LeftTurns x = Check.city("city 5 2;person 4 0 west;may:x=1;");
            x.fog(1, n);
            // Three streets west, then a left at 1, in the hour 3.
            due("with fog for " + n, x.fewest(0, 6, 4), n > 3 ? 0 : 1);
            due("cheapest", x.cheapest(0, 6, 4), n > 3 ? 0 : 1);
            due("ways without lefts", x.ways(0, 6, 4, 0), n > 3 ? 1 : 0);
            due("way without lefts", x.way(0, 6, 0), n > 3 ? 4 : -1);
            due("corners", x.makeFree(0, 6, 4, 0), n > 3 ? 0 : 1);
            due("the corner", x.bestCorner(0, 6, 4), n > 3 ? -1 : 1);
        }
    }

    /** The price is that of the hour, of the crossing and of the direction in which it goes on. */
    private static void cheapestAtTheGate() {
        LeftTurns x = Check.city(Gate.open(23) + "price:100*day+hour+500*x+50*y+7*head;");
        due("in the hour 23", x.cheapest(0, 5, 24), 23 + 500 + 50 + 7);
        LeftTurns y = Check.city(Gate.open(24) + "price:100*day+hour+500*x+50*y+7*head;");
        due("in the hour 24", y.cheapest(0, 5, 25), 100 + 500 + 50 + 7);
        due("in one fewer", y.cheapest(0, 5, 24), -1);
        due("for one in one street", Check.city(OPEN).cheapest(0, 3, 1), 1);
        due("for one in four", Check.city(OPEN).cheapest(0, 3, 4), 1);
        due("for nothing in five", Check.city(OPEN).cheapest(0, 3, 5), 0);
        LeftTurns z = Check.city(OPEN + "price:500*500*4+1;");
        due("back is two", z.cheapest(0, 7, 1), 2000000);
        due("for nothing", Check.city(OPEN + "price:0-1;").cheapest(0, 7, 1), 0);
    }

    private static void twentyStreets() {
        LeftTurns x = Check.city(Gate.open(19));
        due("of 20", x.ways(0, 5, 20, 1), 1);
        due("of 20 with 40", x.ways(0, 5, 20, 40), 1);
        due("of 20 with none", x.ways(0, 5, 20, 0), 0);
        due("of 19", x.ways(0, 5, 19, 40), 0);
        due("of 21", x.ways(0, 5, 21, 1), -3);
        due("ahead of its hour", Check.city(Gate.open(18)).ways(0, 5, 19, 1), 1);
        due("behind its hour there is no street", Check.city(Gate.open(18)).ways(0, 5, 20, 40), 0);
        due("too late", Check.city(Gate.open(20)).ways(0, 5, 20, 40), 0);
    }

    /** Back and forth between two crossings takes two lefts a street. */
    private static void fortyLefts() {
        LeftTurns x = Check.city(Gate.dearest());
        for (int n = 0; n <= 20; n++) {
            int c = n % 2 == 0 ? 1 : 0;
            due("all of " + n, x.ways(0, c, n, 40), 1);
            due("with just enough", x.ways(0, c, n, 2 * n), 1);
            if (n > 0) {
                due("with one fewer", x.ways(0, c, n, 2 * n - 1), 0);
            }
            due("to the other one", x.ways(0, 1 - c, n, 40), 0);
        }
    }

    /** By the walks along a row of five: 4 * 3^8 * (2^19 - 2) + 4 * 3^9. */
    private static void moreThanAnInt() {
        LeftTurns x = Check.city(LARGE);
        due("all that come back", x.ways(0, 12, 20, 40), 13759440516L);
        due("but for the one of backs alone", x.ways(0, 12, 20, 39), 13759440515L);
        due("none comes back in 19", x.ways(0, 12, 19, 40), 0);
        StringBuilder free = new StringBuilder();
        for (int c = 0; c < 25; c++) {
            free.append("free ").append(c % 5).append(' ').append(c / 5).append(';');
        }
        due("all free", Check.city(LARGE + free).ways(0, 12, 20, 0), 13759440516L);
    }

    private static void reachAtTheGate() {
        int round = 1 | 1 << 1 | 1 << 3 | 1 << 4;
        LeftTurns x = Check.city(Gate.open(59));
        due("with none", x.reach(0, 0), round);
        due("with one", x.reach(0, 1), round | 1 << 5);
        due("with 120", x.reach(0, 120), round | 1 << 5);
        due("enough", x.enough(0), 1);
        LeftTurns y = Check.city(Gate.open(60));
        due("too late", y.reach(0, 120), round);
        due("enough for the others", y.enough(0), 0);
    }

    private static void reachOfAll() {
        due("all 25", Check.city(LARGE).reach(0, 0), (1 << 25) - 1);
        LeftTurns x = Check.city("city 5 5;person 4 4 east;wall 4 4 0;wall 4 4 3;");
        due("the last one alone", x.reach(0, 120), 1 << 24);
        due("enough", x.enough(0), 0);
        due("no way out", x.way(0, 23, 120), -1);
        due("where it is", x.way(0, 24, 0), 0);
        due("no ways of one street", x.ways(0, 24, 1, 40), 0);
    }

    private static void byRights() {
        LeftTurns x = Check.city(SPIRAL);
        for (int c = 0; c < 25; c++) {
            for (int d = 0; d < 4; d++) {
                due("byRights(" + c + ", " + d + ") in the spiral", x.byRights(c, d), Check.model(SPIRAL).byRights(c, d));
            }
        }
        // The longest that a search has found: 37 streets.
        String longest = "city 5 5;wall 2 0 1;wall 0 1 1;wall 0 2 2;wall 1 2 2;wall 2 2 1;wall 3 2 1;wall 1 3 2;wall 3 3 2;";
        LeftTurns y = Check.city(longest);
        Model model = Check.model(longest);
        int most = 0;
        for (int i = 0; i < 100; i++) {
            int streets = y.byRights(i / 4, i % 4);
            due("byRights(" + i / 4 + ", " + i % 4 + ")", streets, model.byRights(i / 4, i % 4));
            most = Math.max(most, streets);
        }
        due("the longest", most, 37);
        LeftTurns z = Check.city("city 2 2;");
        due("a left over the edge", z.byRights(0, 0), -1);
        due("a left from which one can't come by rights", z.byRights(0, 3), -1);
        due("behind the last crossing", z.byRights(4, 0), -2);
        due("behind the last direction", z.byRights(0, 4), -2);
    }

    private static void round(LeftTurns x, int lefts, int streets, int... order) {
        due("lefts together", x.round(0, 0, 0), lefts);
        due("streets together", x.round(0, 0, 1), streets);
        for (int k = 0; k < 4; k++) {
            due("the " + k + "-th", x.round(0, 0, 10 + k), k < order.length ? order[k] : -1);
        }
    }

    private static void roundsOfOneToFour() {
        LeftTurns x = Check.city(SPIRAL);
        Check.tray(x, 0, 12);
        round(x, 0, 24, 12);
        Check.tray(x, 0, 12, 1);
        round(x, 0, 24, 1, 12);
        Check.tray(x, 0, 12, 24, 1);
        round(x, 0, 24, 1, 24, 12);
        Check.tray(x, 0, 12, 24, 1, 0);
        round(x, 0, 24, 0, 1, 24, 12);
        Check.tray(x, 0, 12, 24, 1, 0, 0);
        round(x, -4, -4, -4, -4, -4, -4);
        Check.tray(x, 0);
        round(x, -4, -4, -4, -4, -4, -4);
        Check.tray(x, 0, 24, 25);
        round(x, -3, -3, -3, -3, -3, -3);
        Check.tray(x, 0, 24, -1);
        round(x, -3, -3, -3, -3, -3, -3);
    }

    private static void roundsWhat() {
        LeftTurns x = Check.city(SPIRAL);
        Check.tray(x, 0, 12, 24, 1, 0);
        for (int what = 2; what <= 9; what++) {
            due("what " + what, x.round(0, 0, what), -2);
        }
        due("what -1", x.round(0, 0, -1), -2);
        due("the last", x.round(0, 0, 13), 12);
        for (int what : new int[] {14, 15, 100, Integer.MAX_VALUE}) {
            due("not so many, " + what, x.round(0, 0, what), -1);
        }
        Check.tray(x, 0, 12);
        due("not so many", x.round(0, 0, 11), -1);
    }

    /** Each way of a round has 60 streets of its own, in the hours in which it is gone. */
    private static void roundsOfSixtyStreets() {
        LeftTurns x = Check.city(Gate.open(59));
        Check.tray(x, 0, 5);
        round(x, 1, 60, 5);
        LeftTurns y = Check.city(Gate.open(60));
        Check.tray(y, 0, 5);
        round(y, -1, -1, -1, -1, -1, -1);
        // From 1, two streets to 3, and 60 on from there.
        LeftTurns z = Check.city(Gate.open(61));
        Check.tray(z, 0, 5, 3);
        round(z, 1, 62, 3, 5);
        // One street to 4, and 61 on from there.
        Check.tray(z, 0, 5, 4);
        round(z, -1, -1, -1, -1, -1, -1);
        LeftTurns w = Check.city(Gate.dearest());
        Check.tray(w, 0, 3, 2);
        round(w, 120, 61, 2, 3);
        Check.tray(w, 0, 2, 3, 2, 3);
        round(w, 120, 61, 2, 2, 3, 3);
    }

    /**
     * Two rounds that meet in 4, 0 1 4 3 and 4 5 8 7; from one to the other by a left at 4 alone, in the hours 59, 119, 179 and
     * 239. To go in the order that is told takes four ways of 60 streets each; the best one takes the first of them alone.
     */
    private static void roundsAllDay() {
        LeftTurns x = Check.city("city 3 3;wall 1 0 1;wall 0 1 2;wall 1 2 3;wall 2 1 0;person 0 1 west;"
            + "may:x=1 and y=1 and [hour=11 and [day=2 or day=7] or hour=23 and [day=4 or day=9]];");
        Check.tray(x, 0, 5, 3, 5, 3);
        round(x, 1, 60, 3, 3, 5, 5);
        Check.tray(x, 0, 5, 0, 8, 1);
        round(x, 1, 61, 0, 1, 5, 8);
    }

    private static void roundsFirstByPlaces() {
        LeftTurns x = Check.city("city 3 3;person 1 1 north;");
        Check.tray(x, 0, 4, 4, 4, 4);
        round(x, 0, 0, 4, 4, 4, 4);
        // 1 and 2 are each one street away, and two from one another.
        LeftTurns y = Check.city("city 2 2;person 0 0 north;free 0 0;free 1 0;free 0 1;free 1 1;");
        Check.tray(y, 0, 1, 2);
        round(y, 0, 3, 1, 2);
        Check.tray(y, 0, 2, 1);
        round(y, 0, 3, 2, 1);
    }

    private static void freed(LeftTurns x, int c, int n, int many, int bits) {
        due("how many to " + c + " in " + n, x.makeFree(0, c, n, 0), many);
        due("which to " + c + " in " + n, x.makeFree(0, c, n, 1), bits);
    }

    private static void cornersInTwenty() {
        LeftTurns x = Check.city(Gate.open(19));
        freed(x, 5, 20, 1, 1 << 4);
        freed(x, 5, 19, -1, -1);
        freed(x, 5, 0, -1, -1);
        due("in 21", x.makeFree(0, 5, 21, 0), -3);
        due("in -1", x.makeFree(0, 5, -1, 0), -3);
        freed(Check.city(Gate.open(20)), 5, 20, -1, -1);
        freed(Check.city(Gate.open(19) + "free 1 1;"), 5, 20, 0, 0);
        due("what 2", x.makeFree(0, 5, 20, 2), -2);
        due("what -1", x.makeFree(0, 5, 20, -1), -2);
    }

    /** Lefts at 0, 2 and 3 in turn: one corner to 2, two to 3, three, which are too many, to 1. */
    private static void cornersAtMostTwo() {
        LeftTurns x = Check.city("city 2 2;person 0 0 west;may:y=0 and head=2 or y=1 and x=0 and head=1 or y=1 and x=1 and head=0;");
        freed(x, 0, 20, 0, 0);
        freed(x, 2, 20, 1, 1);
        freed(x, 3, 20, 2, 5);
        freed(x, 1, 20, -1, -1);
        // Of 0 and 4, of 1 and 3, of 1 and 4 the second is the least set, though 0 is the first corner.
        freed(Check.city("city 3 2;wall 2 0 3;wall 0 0 2;person 1 0 west;"), 5, 4, 2, 10);
        // Here either of two corners does.
        freed(Check.city("city 2 2;person 1 0 west;"), 2, 2, 1, 1);
        // The highest corner there is.
        freed(Check.city("city 5 5;person 4 4 south;wall 4 4 3;"), 19, 1, 1, 1 << 24);
    }

    private static void bestCornerInThirty() {
        LeftTurns x = Check.city(Gate.open(29));
        due("in 30", x.bestCorner(0, 5, 30), 4);
        due("in 29", x.bestCorner(0, 5, 29), -1);
        due("in 31", x.bestCorner(0, 5, 31), -3);
        due("in -1", x.bestCorner(0, 5, -1), -3);
        due("too late", Check.city(Gate.open(30)).bestCorner(0, 5, 30), -1);
        due("nothing to lower", Check.city(Gate.open(29) + "free 1 1;").bestCorner(0, 5, 30), -1);
        due("the last crossing", Check.city("city 5 5;person 4 4 south;wall 4 4 3;").bestCorner(0, 19, 1), 24);
    }

    private static void bestCornerFirst() {
        // A left at 1, or straight on and a left at 0: both lower by one, the first is told.
        due("of like ones the first", Check.city("city 2 2;person 1 0 west;").bestCorner(0, 2, 2), 0);
        // Back at 3 is two lefts, a left at 1 one: to 0 in two streets by both.
        due("the most", Check.city("city 2 2;person 1 1 south;wall 1 1 3;").bestCorner(0, 0, 2), 3);
        due("a corner that lowers by one of two", Check.city("city 2 2;person 0 0 west;may:y=0 and head=2 or y=1 and head=1;")
            .bestCorner(0, 3, 20), 0);
    }
}
