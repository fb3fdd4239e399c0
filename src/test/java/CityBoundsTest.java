/** The bounds of what is told of a city: promises 5 to 9, streets, walls and laws. */
public final class CityBoundsTest {
    private static final Check CHECK = new Check("CityBoundsTest");
    private static final int[] FAR = {-1, Integer.MIN_VALUE, Integer.MAX_VALUE};
    /** The most that a law's sums come to. */
    private static final String MOST = "500*500*4";

    public static void main(String[] args) {
        people();
        streets();
        everyWall();
        wallsOverTheEdge();
        crossings();
        fogAtACrossing();
        pricesInHours();
        pricesAtLeast();
        plusAndMinusAreKept();
        timesIsKept();
        truthsOfKeptSums();
        hourAndDay();
        heads();
        soldOnes();
        why();
        whyByPlace();
        whyAtFreeOnes();
        CHECK.end();
    }

    private static void due(String call, long got, long want) {
        CHECK.due(call, got, want);
    }

    private static void people() {
        LeftTurns x = Check.city("city 3 2;person 2 1 west lefts 9 coins 8;person 0 0 north;");
        CHECK.person(x, 0, 5, 3, 9, 8, 0);
        CHECK.person(x, 1, 0, 0, 0, 0, 0);
        due("behind the last one", x.person(2, 0), -8);
        due("behind the last what", x.person(1, 5), -8);
        for (int far : FAR) {
            due("person(" + far + ", 0)", x.person(far, 0), -8);
            due("person(0, " + far + ")", x.person(0, far), -8);
        }
        LeftTurns y = Check.city("city 3 2;");
        due("without people", y.person(0, 0), -8);
    }

    private static int neighbour(int wide, int high, int c, int d) {
        int x = c % wide + (d == 1 ? 1 : d == 3 ? -1 : 0);
        int y = c / wide + (d == 2 ? 1 : d == 0 ? -1 : 0);
        return x < 0 || x >= wide || y < 0 || y >= high ? -1 : wide * y + x;
    }

    private static void streets() {
        for (int size = 0; size < 16; size++) {
            int wide = 2 + size % 4;
            int high = 2 + size / 4;
            LeftTurns x = Check.city("city " + wide + " " + high + ";");
            for (int c = 0; c < wide * high; c++) {
                int streets = 0;
                for (int d = 0; d < 4; d++) {
                    due("street(" + c + ", " + d + ") of " + wide + " by " + high, x.street(c, d), neighbour(wide, high, c, d));
                    streets += x.street(c, d) >= 0 ? 1 : 0;
                }
                due("how many", x.crossing(c, 4), streets);
            }
            due("behind the last one", x.street(wide * high, 0), -2);
            due("behind the last direction", x.street(0, 4), -2);
            for (int far : FAR) {
                due("street(" + far + ", 0)", x.street(far, 0), -2);
                due("street(0, " + far + ")", x.street(0, far), -2);
            }
        }
    }

    /** Each wall closes its own street, there and back, and no other one. */
    private static void everyWall() {
        int wide = 3;
        int high = 4;
        for (int c = 0; c < wide * high; c++) {
            for (int d = 0; d < 4; d++) {
                int other = neighbour(wide, high, c, d);
                LeftTurns x = Check.city("city 3 4;wall " + c % wide + " " + c / wide + " " + d + ";");
                for (int i = 0; i < 4 * wide * high; i++) {
                    int from = i / 4;
                    int way = i % 4;
                    boolean closed = from == c && way == d || from == other && way == (d + 2) % 4;
                    due("street(" + from + ", " + way + ") with a wall at " + c + ", " + d, x.street(from, way),
                        closed ? -1 : neighbour(wide, high, from, way));
                }
            }
        }
    }

    private static void wallsOverTheEdge() {
        LeftTurns x = Check.city("city 2 2;wall 0 0 0;wall 0 0 3;wall 1 1 1;wall 1 1 2;");
        for (int c = 0; c < 4; c++) {
            due("streets from " + c, x.crossing(c, 4), 2);
        }
        LeftTurns y = Check.city("city 2 2;wall 0 0 1;wall 0 0 2;");
        due("none goes from it", y.crossing(0, 4), 0);
        due("one goes beside it", y.crossing(1, 4), 1);
    }

    private static void crossings() {
        LeftTurns x = Check.city("city 2 3;free 1 2;");
        long[] want = {1, 0, 1, 0, 2};
        for (int what = 0; what < want.length; what++) {
            due("crossing(5, " + what + ")", x.crossing(5, what), want[what]);
            due("behind the last one", x.crossing(6, what), -2);
        }
        due("behind the last what", x.crossing(5, 5), -2);
        for (int far : FAR) {
            due("crossing(" + far + ", 0)", x.crossing(far, 0), -2);
            due("crossing(0, " + far + ")", x.crossing(0, far), -2);
        }
    }

    /** Fog of n hours: free in the hours 0 to n - 1 from then, and no longer. */
    private static void fogAtACrossing() {
        for (int n : new int[] {1, 2, 98, 99}) {
            LeftTurns x = Check.city("city 2 2;hour 999;");
            due("free ones", x.fog(3, n), 1);
            due("hours left", x.crossing(3, 3), n);
            due("free", x.crossing(3, 2), 1);
            if (n > 1) {
                x.hours(n - 1);
            }
            due("hours left in the last one", x.crossing(3, 3), 1);
            due("free in the last one", x.crossing(3, 2), 1);
            due("free ones", x.count(5), 1);
            x.hours(1);
            due("hours left behind it", x.crossing(3, 3), 0);
            due("free behind it", x.crossing(3, 2), 0);
            due("free ones", x.count(5), 0);
            x.hours(1);
            due("hours left later", x.crossing(3, 3), 0);
        }
        LeftTurns y = Check.city("city 2 2;free 0 0;");
        due("a free one in fog", y.fog(0, 1), 1);
        y.hours(1);
        due("is free behind it", y.crossing(0, 2), 1);
        due("without fog", y.crossing(0, 3), 0);
        due("fog elsewhere", y.crossing(1, 3), 0);
    }

    private static void pricesInHours() {
        LeftTurns x = Check.city("city 2 2;price:24*day+hour+1;hour 999;");
        for (int n : new int[] {0, 1, 8, 9, 998, 999}) {
            due("price in " + n, x.price(3, 3, n), 1000 + n);
        }
        for (int n : new int[] {-1, 1000, Integer.MIN_VALUE, Integer.MAX_VALUE}) {
            due("price in " + n, x.price(3, 3, n), -3);
            due("no crossing is told first", x.price(4, 3, n), -2);
            due("no direction is told first", x.price(3, 4, n), -2);
        }
        for (int far : FAR) {
            due("no crossing", x.price(far, 0, 0), -2);
            due("no direction", x.price(0, far, 0), -2);
        }
        due("behind the last one", x.price(4, 0, 0), -2);
        due("behind the last direction", x.price(0, 4, 0), -2);
        due("hours stay", x.count(3), 999);
    }

    private static long priced(String law) {
        return Check.city("city 2 2;price:" + law + ";").price(0, 0, 0);
    }

    private static void pricesAtLeast() {
        due("one above", priced("5-4"), 1);
        due("nothing", priced("5-5"), 0);
        due("one below", priced("5-6"), 0);
        due("far below", priced("0-" + MOST), 0);
        due("only the whole is kept from below 0", priced("5-6+6"), 5);
        due("below 0 within", priced("(5-6)*(5-7)"), 2);
        LeftTurns x = Check.city("city 2 2;price:x-1;person 0 0 north;person 1 0 north;");
        due("for nothing", x.buy(0, 20), 0);
        due("at 0", x.buy(1, 20), 0);
        due("affords", x.affords(0), 79);
    }

    private static void plusAndMinusAreKept() {
        due("the most", priced(MOST), 1000000);
        due("one less", priced(MOST + "-1"), 999999);
        due("one more", priced(MOST + "+1"), 1000000);
        due("one more, one less", priced(MOST + "+1-1"), 999999);
        due("one less, one more", priced(MOST + "-1+1"), 1000000);
        due("one less, two more, one less", priced(MOST + "-1+2-1"), 999999);
        due("twice the most", priced(MOST + "+" + MOST + "-7"), 999993);
        due("in brackets", priced("(" + MOST + "+999)-(" + MOST + "+1)"), 0);
        due("the least", priced("0-" + MOST + "+" + MOST + "+5"), 5);
        due("one above the least", priced("1-" + MOST + "+" + MOST + "+5"), 6);
        due("one below the least", priced("0-" + MOST + "-1+" + MOST + "+5"), 5);
        due("plus one below the least", priced("0-" + MOST + "+(0-1)+" + MOST + "+5"), 5);
        due("plus one above the least", priced("0-" + MOST + "+1+" + MOST + "+5"), 6);
        due("twice below", priced("0-" + MOST + "-" + MOST + "+" + MOST + "+5"), 5);
        due("less less than the least", priced(MOST + "-(0-1)-1"), 999999);
    }

    private static void timesIsKept() {
        due("the most", priced("500*500*2*2-1"), 999999);
        due("just above", priced("500*500*4*2-1"), 999999);
        due("just below", priced("999*999-1"), 998000);
        due("just below the most", priced("999*(500+501)"), 999999);
        due("above by little", priced("(500+501)*(500+501)-1"), 999999);
        due("beyond an int", priced(MOST + "*(" + MOST + ")-1"), 999999);
        due("beyond an int below", priced("(0-500)*500*4*(" + MOST + ")+" + MOST + "+5"), 5);
        due("the least", priced("(0-500)*500*4+" + MOST + "+5"), 5);
        due("below the least", priced("(0-500)*500*8+" + MOST + "+5"), 5);
        due("above the least", priced("(0-999)*(500+501)+" + MOST + "+5"), 6);
        due("two below 0", priced("(0-999)*(0-999)*2-1"), 999999);
        due("each one by itself", priced("999*999*999*0+7"), 7);
        due("each from the left", priced("2*999*999*(0-1)+" + MOST), 0);
    }

    private static boolean holds(String law) {
        return Check.city("city 2 2;person 0 1 south;may:" + law + ";").why(0, 3) == 4;
    }

    private static void truthsOfKeptSums() {
        CHECK.due("kept sums are alike", holds(MOST + "+1=" + MOST));
        CHECK.due("kept sums are not less", !holds(MOST + "<" + MOST + "+1"));
        CHECK.due("kept sums are not more", !holds(MOST + "+1>" + MOST));
        CHECK.due("one less is less", holds(MOST + "-1<" + MOST));
        CHECK.due("below 0 is less", holds("0-1<0"));
        CHECK.due("kept below", holds("0-" + MOST + "-1=0-" + MOST));
        CHECK.due("alike", holds("7=7"));
        CHECK.due("one off", !holds("7=8"));
        CHECK.due("less", holds("7<8"));
        CHECK.due("not less", !holds("8<8"));
        CHECK.due("more", holds("8>7"));
        CHECK.due("not more", !holds("8>8"));
    }

    /** The hour goes round at 24, and then the day is one more. */
    private static void hourAndDay() {
        for (int hours : new int[] {0, 1, 22, 23, 24, 25, 47, 48, 49, 71, 72, 239, 240, 983, 984, 999}) {
            LeftTurns x = Check.city("city 2 2;price:100*day+hour;hour " + hours + ";");
            due("price in the hour " + hours, x.price(0, 0, 0), 100 * (hours / 24) + hours % 24);
            due("crossing in the hour " + hours, x.crossing(0, 0), 100 * (hours / 24) + hours % 24);
            due("price an hour later", x.price(0, 0, 1), 100 * ((hours + 1) / 24) + (hours + 1) % 24);
            x.hours(1);
            due("an hour later", x.price(0, 0, 0), 100 * ((hours + 1) / 24) + (hours + 1) % 24);
        }
        LeftTurns y = Check.city("city 2 2;person 0 1 south;may:hour=23 and day=0 or hour=0 and day=1;hour 22;");
        due("at 22", y.why(0, 3), 3);
        y.hours(1);
        due("at 23", y.why(0, 3), 4);
        y.hours(1);
        due("at 24", y.why(0, 3), 4);
        y.hours(1);
        due("at 25", y.why(0, 3), 3);
        // As many hours as 512 calls can let go by.
        LeftTurns z = Check.city("city 2 2;price:24*day+hour;hour 999;");
        for (int i = 1; i <= 500; i++) {
            due("hours", z.hours(99), 999 + 99 * i);
        }
        due("the price then", z.price(0, 0, 999), 999 + 99 * 500 + 999);
    }

    private static void heads() {
        LeftTurns x = Check.city("city 3 3;price:10+head;may:head=2;person 1 1 west lefts 9 coins 99;");
        for (int d = 0; d < 4; d++) {
            due("price heading " + d, x.price(0, d, 0), 10 + d);
        }
        due("where nobody is told", x.crossing(0, 0), 10);
        due("to a person that heads west", x.buy(0, 1), 13);
        due("a left goes south", x.why(0, 2), 0);
        due("back goes east", x.why(0, 3), 3);
        due("right goes north", x.why(0, 1), 0);
    }

    private static void soldOnes() {
        LeftTurns x = Check.city("city 2 2;price:sold;may:sold=2;person 0 1 south coins 9;");
        due("the first one", x.buy(0, 1), 0);
        due("not by one", x.why(0, 3), 3);
        due("the second one", x.buy(0, 1), 1);
        due("by two", x.why(0, 3), 0);
        due("elsewhere", x.price(0, 0, 0), 0);
        due("there", x.price(2, 0, 0), 2);
        due("the third one", x.buy(0, 1), 2);
        due("not by three", x.why(0, 3), 3);
        due("sold there", x.crossing(2, 1), 3);
        due("sold elsewhere", x.crossing(0, 1), 0);
    }

    /** A left asks for one left, back for two. */
    private static void why() {
        for (int lefts = 0; lefts <= 3; lefts++) {
            LeftTurns x = Check.city("city 3 3;person 1 1 north lefts " + lefts + ";");
            due("straight with " + lefts, x.why(0, 0), 0);
            due("right with " + lefts, x.why(0, 1), 0);
            due("left with " + lefts, x.why(0, 2), lefts < 1 ? 4 : 0);
            due("back with " + lefts, x.why(0, 3), lefts < 2 ? 4 : 0);
            due("behind the last turn", x.why(0, 4), 1);
            due("behind the last person", x.why(1, 0), 1);
            for (int far : FAR) {
                due("why(" + far + ", 0)", x.why(far, 0), 1);
                due("why(0, " + far + ")", x.why(0, far), 1);
            }
        }
        LeftTurns x = Check.city("city 2 2;person 0 0 north;may:0=1;");
        due("no street is told ahead of the law", x.why(0, 2), 2);
        due("the law is told ahead of lefts", x.why(0, 3), 3);
        due("no such turn is told ahead of all", x.why(0, 5), 1);
    }

    /** Laws ask for the x and y of the crossing at which one turns. */
    private static void whyByPlace() {
        for (int c = 0; c < 12; c++) {
            LeftTurns x = Check.city("city 3 4;person " + c % 3 + " " + c / 3 + " south lefts 9;may:x=1 and y=2;price:10*x+y;"
                + "person " + c % 3 + " " + c / 3 + " north lefts 9;");
            int away = c / 3 > 0 ? 0 : 1;
            due("back at " + c, x.why(away, 3), c == 7 ? 0 : 3);
            due("price at " + c, x.crossing(c, 0), 10 * (c % 3) + c / 3);
        }
    }

    private static void whyAtFreeOnes() {
        LeftTurns x = Check.city("city 3 3;person 1 1 north;free 1 1;");
        due("a left is free", x.why(0, 2), 0);
        due("back is free", x.why(0, 3), 0);
        LeftTurns y = Check.city("city 3 3;person 1 1 north;free 1 1;may:0=1;");
        due("but not beside the law", y.why(0, 2), 3);
        due("nor is back", y.why(0, 3), 3);
        LeftTurns z = Check.city("city 3 3;person 1 1 north;free 1 0;");
        due("free elsewhere", z.why(0, 2), 4);
        z.fog(4, 1);
        due("free in fog", z.why(0, 3), 0);
        z.hours(1);
        due("behind it", z.why(0, 3), 4);
    }
}
