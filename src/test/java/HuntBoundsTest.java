/** The bounds of dealings, envelopes that were found, watch and thief: promises 31 to 36. */
public final class HuntBoundsTest {
    private static final Check CHECK = new Check("HuntBoundsTest");
    /** A city in which chases take up to 51 goings, more than a watch has. */
    private static final String LONG_CHASE = "city 5 5;wall 1 0 2;";

    public static void main(String[] args) {
        dealingsOfADay();
        dealingsOfLikeGain();
        dealingsAtTheBounds();
        cheap();
        affords();
        foundInThirty();
        foundNothing();
        foundTen();
        foundBesideFreeOnes();
        foundInOrder();
        chasesOfNone();
        chasesOfThirty();
        whoCanNotGo();
        posts();
        CHECK.end();
    }

    private static void due(String call, long got, long want) {
        CHECK.due(call, got, want);
    }

    private static void deal(String text, int c, int direction, long... want) {
        LeftTurns x = Check.city("city 2 2;" + text);
        for (int what = 0; what < 3; what++) {
            due("dealing(" + c + ", " + direction + ", " + what + ") by " + text, x.dealing(c, direction, what), want[what]);
        }
    }

    /** The hours 0 to 23 from now: a price that rises with the day does so within them, but for the first hour of a day. */
    private static void dealingsOfADay() {
        for (int hour = 0; hour <= 48; hour++) {
            int on = 24 - hour % 24;
            if (on == 24) {
                deal("price:day;hour " + hour + ";", 0, 0, 0, -1, -1);
            } else {
                deal("price:day;hour " + hour + ";", 0, 0, 1, 0, on);
            }
        }
        deal("price:hour;", 3, 3, 23, 0, 23);
        deal("price:hour;hour 1;", 3, 3, 22, 0, 22);
        deal("price:hour;hour 23;", 3, 3, 22, 1, 23);
        deal("price:hour;hour 22;", 3, 3, 21, 2, 23);
        // It is sold in a later hour, not in the one in which it was bought, nor ahead of it.
        deal("price:23-hour;", 0, 0, 0, -1, -1);
        deal("price:23-hour;hour 1;", 0, 0, 23, 22, 23);
    }

    private static void dealingsOfLikeGain() {
        // 0 1 0 1: the first hour to buy, then the first to sell.
        deal("price:(hour-1)*(hour-1)*(hour-3)*(hour-3)*(0-1)+1;", 0, 0, 1, 0, 1);
        // 0 0 2 2, and nothing behind: of two hours to buy the first, of two to sell the first.
        deal("price:(4-hour)*(hour-1);", 0, 0, 2, 0, 2);
        deal("price:7;", 0, 0, 0, -1, -1);
        deal("", 0, 0, 0, -1, -1);
    }

    private static void dealingsAtTheBounds() {
        deal("price:500*500*4*hour;", 0, 0, 1000000, 0, 1);
        deal("price:500*500*4*(hour-22);", 0, 0, 1000000, 0, 23);
        deal("price:hour*head;", 0, 0, 0, -1, -1);
        deal("price:hour*head;", 0, 3, 69, 0, 23);
        deal("price:hour*(x+y);", 3, 0, 46, 0, 23);
        LeftTurns x = Check.city("city 2 2;price:hour*sold;person 0 0 north coins 9;");
        due("with none sold", x.dealing(0, 0, 0), 0);
        x.buy(0, 2);
        due("with two sold, as now", x.dealing(0, 0, 0), 46);
        for (int bad : new int[] {-1, Integer.MIN_VALUE, Integer.MAX_VALUE}) {
            due("no crossing", x.dealing(bad, 0, 0), -2);
            due("no direction", x.dealing(0, bad, 0), -2);
            due("no such what", x.dealing(0, 0, bad), -2);
        }
        due("behind the last crossing", x.dealing(4, 0, 0), -2);
        due("behind the last direction", x.dealing(0, 4, 0), -2);
        due("behind the last what", x.dealing(0, 0, 3), -2);
    }

    private static void cheap() {
        due("none", new LeftTurns().cheap(), -1);
        due("none", Check.city("price:x;hour 3;").cheap(), -1);
        for (int size = 0; size < 16; size++) {
            int wide = 2 + size % 4;
            int high = 2 + size / 4;
            String city = "city " + wide + " " + high + ";";
            due("all alike, the first", Check.city(city).cheap(), 0);
            due("the last one", Check.city(city + "price:50-x-5*y;").cheap(), wide * high - 1);
            due("the first of the last row", Check.city(city + "price:50-y;").cheap(), wide * (high - 1));
            due("the first that is for nothing", Check.city(city + "price:1-x;").cheap(), 1);
            due("heading north", Check.city(city + "price:head*(9-2*x)+x;").cheap(), 0);
        }
    }

    private static void affords() {
        for (int lefts : new int[] {0, 1, 97, 98, 99}) {
            due("with " + lefts, Check.city("city 2 2;person 0 0 east lefts " + lefts + " coins 999;").affords(0), 99 - lefts);
            due("for nothing", Check.city("city 2 2;person 0 0 east lefts " + lefts + ";price:0;").affords(0), 99 - lefts);
        }
        for (int coins : new int[] {97, 98, 99, 100}) {
            due("with " + coins + " coins", Check.city("city 2 2;person 0 0 east coins " + coins + ";").affords(0), Math.min(99, coins));
        }
        // 1, 2, 3: six coins for three.
        for (int coins = 0; coins <= 10; coins++) {
            int can = coins < 1 ? 0 : coins < 3 ? 1 : coins < 6 ? 2 : coins < 10 ? 3 : 4;
            due("dearer each time, " + coins, Check.city("city 2 2;person 0 0 east coins " + coins + ";price:1+sold;").affords(0), can);
        }
        due("the first one is too dear", Check.city("city 2 2;person 0 0 east coins 2;price:3-sold;").affords(0), 0);
        due("all behind it are for nothing", Check.city("city 2 2;person 0 0 east coins 6;price:3-sold;").affords(0), 99);
        due("a coin short", Check.city("city 2 2;person 0 0 east coins 5;price:3-sold;").affords(0), 2);
        due("in this hour, heading so", Check.city("city 2 2;person 0 0 east coins 9;price:hour+head;hour 26;").affords(0), 3);
        due("behind the last one", Check.city("city 2 2;person 0 0 east;").affords(1), -2);
    }

    private static void found(LeftTurns x, int n, int bits, long... envelopes) {
        Check.tray(x, 0, envelopes);
        due("found in " + n + ", " + envelopes.length + " envelopes", x.found(0, 0, n), bits);
    }

    private static void foundInThirty() {
        LeftTurns x = Check.city(Gate.open(29));
        found(x, 30, 1 << 5, 4);
        found(x, 29, 0, 4);
        found(x, 31, -3, 4);
        found(x, -1, -3, 4);
        // Back at 4, to 1: two envelopes; none by rights alone; three never.
        found(x, 30, 1 << 1, 4, 4);
        found(x, 30, 0, 4, 4, 4);
        found(x, 30, 0, 5);
        found(Check.city(Gate.open(30)), 30, 0, 4);
        // 30 streets by rights from 1 lead to 4, 29 to 1.
        found(x, 0, 1 << 1);
        found(x, 28, 1 << 1);
        found(x, 29, 1 << 4);
        found(x, 30, 1 << 3);
        found(Check.city(Gate.open(29) + "free 1 1;"), 30, 1 << 3 | 1 << 5 | 1 << 1);
        found(Check.city(Gate.open(29) + "free 1 1;"), 30, 0, 4);
    }

    private static void foundNothing() {
        LeftTurns x = Check.city("city 3 3;person 1 1 north lefts 9;");
        found(x, 0, 1 << 4);
        found(x, 0, 0, 4);
        found(x, 1, 1 << 1 | 1 << 5);
        found(x, 1, 1 << 3, 4);
        found(x, 1, 1 << 7, 4, 4);
        found(x, 1, 0, 4, 4, 4);
        LeftTurns stuck = Check.city("city 2 2;person 0 0 west;wall 0 0 1;wall 0 0 2;");
        found(stuck, 0, 1);
        found(stuck, 1, 0);
        found(stuck, 30, 0);
    }

    /** Between 0 and 1 there is nothing but back: two envelopes a street, ten in five. */
    private static void foundTen() {
        LeftTurns x = Check.city("city 2 2;person 0 0 west;wall 0 0 2;wall 1 0 2;");
        found(x, 4, 1, 0, 0, 1, 1, 0, 0, 1, 1);
        found(x, 4, 0, 0, 0, 1, 1, 0, 0, 1, 1, 0);
        found(x, 5, 0, 0, 0, 1, 1, 0, 0, 1, 1, 0);
        found(x, 5, 2, 0, 0, 1, 1, 0, 0, 1, 1, 0, 0);
        found(x, 6, 0, 0, 0, 1, 1, 0, 0, 1, 1, 0, 0);
        found(x, 5, -4, 0, 0, 1, 1, 0, 0, 1, 1, 0, 0, 1);
        found(x, 5, -4, 0, 0, 1, 1, 0, 0, 1, 1, 0, 0, 1, 1);
        x.numbers(0, 0, 40);
        due("forty", x.found(0, 0, 0), -4);
        // Ten single ones: round by lefts, 4 3 6 7 4 ..., and on by a right.
        LeftTurns y = Check.city("city 3 3;person 1 1 north;");
        found(y, 10, 1 << 6, 4, 3, 6, 7, 4, 3, 6, 7, 4, 3);
    }

    /** Behind an envelope at 4, a left, a right and back at 3, where lefts are free, leave none. */
    private static void foundBesideFreeOnes() {
        LeftTurns x = Check.city("city 3 3;person 1 1 north;free 0 1;");
        found(x, 2, 1 | 1 << 4 | 1 << 6, 4);
        found(x, 2, 0, 4, 3);
        found(x, 3, 1 << 7, 4, 6);
        LeftTurns y = Check.city("city 3 3;person 1 1 north;");
        y.fog(3, 2);
        found(y, 2, 1 | 1 << 4 | 1 << 6, 4);
        y.fog(3, 1);
        found(y, 2, 1, 4);
    }

    private static void foundInOrder() {
        LeftTurns x = Check.city("city 3 3;person 1 1 north;");
        found(x, 2, 1 << 6, 4, 3);
        found(x, 2, 0, 3, 4);
        found(x, 2, 1 << 4, 4, 3, 3);
        found(x, 3, -3, 9);
        found(x, 3, -3, -1);
        found(x, 3, -3, 4, 9);
        found(x, 3, -3, Long.MAX_VALUE);
        due("behind the last person", x.found(1, 0, 3), -2);
        due("behind the last tray", x.found(0, 4, 3), -2);
        due("a missing one", x.found(0, 3, 3), -6);
    }

    private static void chasesOfNone() {
        LeftTurns x = Check.city("city 3 3;");
        for (int i = 0; i < 16; i++) {
            due("both at one crossing", x.chase(4, i / 4, 4, i % 4), 0);
        }
        // A thief in a corner, heading west along the lower edge: right, north, is all that he can do.
        due("he must go to the watch", x.chase(6, 3, 3, 0), 0);
        due("he may go elsewhere", x.chase(7, 3, 6, 2), -1);
        due("posts of none", x.posts(6, 3, 0, 0), 1 << 6 | 1 << 3);
    }

    private static void chasesOfThirty() {
        LeftTurns x = Check.city(LONG_CHASE);
        due("29 goings", x.chase(23, 3, 6, 2), 29);
        due("30 goings", x.chase(24, 3, 5, 1), 30);
        due("31 goings", x.chase(23, 3, 6, 0), -1);
        due("posts in 28", x.posts(23, 3, 2, 28) >> 6 & 1, 0);
        due("posts in 29", x.posts(23, 3, 2, 29) >> 6 & 1, 1);
        due("posts in 30", x.posts(23, 3, 2, 30) >> 6 & 1, 1);
        due("posts in 29", x.posts(24, 3, 1, 29) >> 5 & 1, 0);
        due("posts in 30", x.posts(24, 3, 1, 30) >> 5 & 1, 1);
        due("posts in 30", x.posts(23, 3, 0, 30) >> 6 & 1, 0);
        Model model = Check.model(LONG_CHASE);
        for (int i = 0; i < 100; i += 9) {
            for (int j = 0; j < 100; j += 3) {
                due("chase " + i + " " + j, x.chase(i / 4, i % 4, j / 4, j % 4), model.chase(i / 4, i % 4, j / 4, j % 4));
            }
        }
    }

    /** Who can't go stays and heads on as he does; who can must. */
    private static void whoCanNotGo() {
        LeftTurns x = Check.city("city 2 2;wall 0 0 1;wall 0 0 2;");
        due("the thief is walled in, so nobody comes", x.chase(0, 0, 1, 2), -1);
        due("the watch is walled in", x.chase(1, 2, 0, 0), -1);
        due("posts around him", x.posts(0, 0, 0, 30), 1);
        LeftTurns y = Check.city("city 2 2;");
        // The thief at 0 heading west is stuck; the watch comes from 2 by north.
        due("he stays", y.chase(0, 3, 2, 0), 1);
        due("or from 1 by west", y.chase(0, 3, 1, 3), 1);
        due("or from 3 by 2", y.chase(0, 3, 3, 2), 2);
        due("the watch can't stay", y.chase(0, 0, 2, 3), -1);
    }

    private static void posts() {
        LeftTurns x = Check.city(LONG_CHASE);
        for (int n : new int[] {0, 1, 2, 29, 30}) {
            int bits = 0;
            for (int c = 0; c < 25; c++) {
                int goings = x.chase(12, 1, c, 2);
                bits |= goings >= 0 && goings <= n ? 1 << c : 0;
            }
            due("posts in " + n, x.posts(12, 1, 2, n), bits);
        }
        for (int n : new int[] {-1, 31, Integer.MIN_VALUE, Integer.MAX_VALUE}) {
            due("posts in " + n, x.posts(12, 1, 2, n), -3);
        }
        for (int i = 0; i < 16; i++) {
            due("the last crossing, heading all ways", x.posts(24, i / 4, i % 4, 0) >> 24, 1);
        }
        due("behind it", x.posts(25, 0, 0, 0), -2);
        due("behind the last direction", x.posts(24, 4, 0, 0), -2);
        due("behind the last direction", x.posts(24, 0, 4, 0), -2);
    }
}
