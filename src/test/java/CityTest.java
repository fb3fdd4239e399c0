/** Promises 1 to 9: the city and what is told of it. */
public final class CityTest {
    private static final Check CHECK = new Check("CityTest");

    public static void main(String[] args) {
        newObject();
        tape();
        lines();
        faultsOfTokens();
        faultsOfPlace();
        tokensEndWithTheText();
        faultsOfBounds();
        faultsOfTooMany();
        faultStays();
        people();
        streets();
        crossings();
        prices();
        lawsCount();
        lawsAreKept();
        why();
        CHECK.end();
    }

    private static void due(String call, long got, long want) {
        CHECK.due(call, got, want);
    }

    private static void newObject() {
        LeftTurns x = new LeftTurns();
        for (int what = 0; what < 10; what++) {
            due("count(" + what + ") of a new object", x.count(what), 0);
        }
        due("count(10)", x.count(10), -1);
        due("count(-1)", x.count(-1), -1);
        due("fault(0)", x.fault(0), 0);
        due("fault(1)", x.fault(1), -1);
        due("person", x.person(0, 0), -8);
        due("street", x.street(0, 0), -2);
        due("crossing", x.crossing(0, 0), -2);
        due("price", x.price(0, 0, 0), -2);
        due("cheap", x.cheap(), -1);
        due("NONE", LeftTurns.NONE, -1);
    }

    private static void tape() {
        LeftTurns x = new LeftTurns();
        for (int i = 1; i <= 45; i++) {
            due("feed", x.feed(0, 0, 0, 0, 0), 20 * i);
        }
        due("feed beyond 900", x.feed(0, 0, 0, 0, 0), -5);
        due("count(7)", x.count(7), 900);
        due("city(-1)", x.city(-1), -3);
        due("city(901)", x.city(901), -3);
        due("the tape stays", x.count(7), 900);
        due("fault(0) as none was read", x.fault(0), 0);
        due("city(900)", x.city(900), -31);
        due("its place", x.fault(1), 0);
        due("the tape is empty", x.count(7), 0);
        due("city(1)", x.city(1), -3);
        due("city(0)", x.city(0), 0);
        due("fault(0)", x.fault(0), 0);
        due("fault(1)", x.fault(1), -1);
        due("fault(2)", x.fault(2), -1);
        due("fault(-1)", x.fault(-1), -1);
        // The highest byte of each int comes first: "city 2 3;" and what stands behind n is not read.
        due("feed", x.feed(0x63697479, 0x20322033, 0x3b212121, 0, 0), 20);
        due("city(9)", x.city(9), 1);
        due("wide", x.count(0), 2);
        due("high", x.count(1), 3);
        due("a text that is all blanks", Check.read(x, " \n \n "), 0);
        due("is an empty city", x.count(0), 0);
        due("empty", x.city(0), 0);
    }

    private static void lines() {
        LeftTurns x = new LeftTurns();
        due("lines", Check.read(x, "hour 5; price : 2;\nmay:1=1;city 3 4;free 0 0;free 0 0;wall 0 0 1;"
            + "person 1 2 south;hour 7;price:x;"), 10);
        due("count(8)", x.count(8), 10);
        due("wide", x.count(0), 3);
        due("high", x.count(1), 4);
        due("the later hour counts", x.count(3), 7);
        due("told twice is as told once", x.count(5), 1);
        due("the later price counts", x.price(1, 0, 0), 1);
        due("tokens without blanks", Check.read(x, "city2 3;person1 1west lefts4coins5;"), 2);
        due("its lefts", x.person(0, 2), 4);
        due("its coins", x.person(0, 3), 5);
        due("numbers with noughts ahead", Check.read(x, "city 002 03;"), 1);
        due("nothing is kept of the old city", x.count(2), 0);
    }

    private static void fault(String text, int kind, int place) {
        CHECK.faulty(text, kind, place);
    }

    private static void faultsOfTokens() {
        fault("City 2 2;", 1, 0);
        fault("city 2 2;\t", 1, 9);
        fault("city 1000 2;", 1, 5);
        fault("city 0002 2;", 1, 5);
        fault("city 2 2;\u00e9", 1, 9);
        fault("city 2 2;\0", 1, 9);
        fault("city 2 2; price: 2/3;", 1, 18);
        fault("city 2 2; price: 2 12345;", 1, 19);
        fault("city 2 2; price: 2,", 1, 18);
        fault("city 9 2!", 3, 5);
        fault("city 2 2 2 !", 2, 9);
    }

    private static void faultsOfPlace() {
        fault(";", 2, 0);
        fault("city 2 2", 2, 8);
        fault("city 2 2 ", 2, 9);
        fault("city 2;", 2, 6);
        fault("city", 2, 4);
        fault("town 2 2;", 2, 0);
        fault("cityy 2 2;", 2, 0);
        fault("city 2 2; city 2 2;", 2, 10);
        fault("wall 0 0 0; city 2 2;", 2, 0);
        fault("free 0 0; city 2 2;", 2, 0);
        fault("hour 1; person 0 0 north; city 2 2;", 2, 8);
        fault("city 2 2; person 0 0;", 2, 20);
        fault("city 2 2; person 0 0 up;", 2, 21);
        fault("city 2 2; person 0 0 north coins 2 lefts 1;", 2, 35);
        fault("city 2 2; person 0 0 north lefts;", 2, 32);
        fault("price 1;", 2, 6);
        fault("price: ;", 2, 7);
        fault("price: 1 +;", 2, 10);
        fault("price: 1 2;", 2, 9);
        fault("price: 1 = 2;", 2, 9);
        fault("price: (1;", 2, 9);
        fault("price: [1];", 2, 7);
        fault("price: z;", 2, 7);
        fault("price: -1;", 2, 7);
        fault("may: 1;", 2, 6);
        fault("may: 1 = 1 = 1;", 2, 11);
        fault("may: (1 = 1);", 2, 8);
        fault("may: [1 = 1;", 2, 11);
        fault("may: 1 = 1 or;", 2, 13);
        fault("may: not;", 2, 8);
        fault("may: 1 = not 1 = 1;", 2, 9);
        fault("hour;", 2, 4);
        fault("5;", 2, 0);
    }

    /** What stands on the tape behind the text doesn't lengthen its last token. */
    private static void tokensEndWithTheText() {
        int[][] cuts = {{3, 2, 0}, {4, 2, 4}, {5, 2, 5}, {6, 2, 6}, {8, 2, 8}, {9, 1, 5}, {10, 1, 5}};
        for (int[] cut : cuts) {
            LeftTurns x = new LeftTurns();
            Check.feed(x, "hour 10000;");
            due("city(" + cut[0] + ")", x.city(cut[0]), -30 - cut[1]);
            due("its place", x.fault(1), cut[2]);
        }
    }

    private static void faultsOfBounds() {
        fault("city 1 2;", 3, 5);
        fault("city 6 2;", 3, 5);
        fault("city 2 6;", 3, 7);
        fault("city 2 1;", 3, 7);
        fault("city 2 3; wall 2 0 0;", 3, 15);
        fault("city 2 3; wall 0 3 0;", 3, 17);
        fault("city 2 3; wall 0 0 4;", 3, 19);
        fault("city 2 3; free 2 0;", 3, 15);
        fault("city 2 3; free 0 3;", 3, 17);
        fault("city 2 3; person 2 0 north;", 3, 17);
        fault("city 2 3; person 0 3 north;", 3, 19);
        fault("city 2 3; person 0 0 north lefts 100;", 3, 33);
        LeftTurns x = Check.city("city 5 5; person 4 4 north lefts 99 coins 999; hour 999;");
        due("lefts at the bound", x.person(0, 2), 99);
        due("coins at the bound", x.person(0, 3), 999);
        due("hour at the bound", x.count(3), 999);
    }

    private static void faultsOfTooMany() {
        String five = "city 2 2;person 0 0 north;person 0 0 north;person 0 0 north;person 0 0 north;person 0 0 north;";
        due("five people", Check.city(five).count(2), 5);
        fault(five + " person 9 9;", 4, five.length() + 1);
        due("six of (", Check.city("price: ((((((1))))));").count(8), 1);
        fault("price: (((((((1)))))));", 4, 13);
        due("six of not", Check.city("may: not not not not not not 1 = 1;").count(8), 1);
        fault("may: not not not not not not not 1 = 1;", 4, 29);
        due("six of [", Check.city("may: [[[[[[1 = 1]]]]]];").count(8), 1);
        fault("may: [[[[[[[1 = 1]]]]]]];", 4, 11);
        due("six of all", Check.city("may: not [ not [ (1) = ((2)) ] ];").count(8), 1);
        fault("may: not [ not [ ((1)) = (((2))) ] ];", 4, 27);
        due("side by side they are as many as one likes",
            Check.city("price: (1)+(1)+(1)+(1)+(1)+(1)+(1)+(1);").count(8), 1);
        due("not ends with its unit",
            Check.city("may: not 1=2 and not 1=2 and not 1=2 and not 1=2 and not 1=2 and not 1=2 and not 1=2;").count(8), 1);
    }

    private static void faultStays() {
        LeftTurns x = Check.city("city 3 2; person 1 1 east lefts 3; hour 4;");
        x.hours(2);
        due("a faulty one", Check.read(x, "city 2 2; free"), -32);
        due("wide stays", x.count(0), 3);
        due("people stay", x.count(2), 1);
        due("hours stay", x.count(3), 6);
        due("lines stay", x.count(8), 3);
        due("what can be undone stays", x.count(6), 1);
        due("fault", x.fault(0), 2);
        due("place", x.fault(1), 14);
        due("a number that can't be", x.city(1), -3);
        due("leaves the fault", x.fault(0), 2);
        due("a good one", Check.read(x, "city 2 2;"), 1);
        due("fault", x.fault(0), 0);
        due("nothing can be undone", x.count(6), 0);
        due("undo", x.undo(1), -3);
    }

    private static void people() {
        LeftTurns x = Check.city("city 3 3; person 1 2 west lefts 7 coins 8; person 0 0 north coins 5; person 2 0 east lefts 2;"
            + " person 2 1 south;");
        long[][] want = {{7, 3, 7, 8, 0}, {0, 0, 0, 5, 0}, {2, 1, 2, 0, 0}, {5, 2, 0, 0, 0}};
        for (int p = 0; p < 4; p++) {
            for (int what = 0; what < 5; what++) {
                due("person(" + p + ", " + what + ")", x.person(p, what), want[p][what]);
            }
        }
        due("person(4, 0)", x.person(4, 0), -8);
        due("person(-1, 0)", x.person(-1, 0), -8);
        due("person(0, 5)", x.person(0, 5), -8);
        due("person(0, -1)", x.person(0, -1), -8);
        x.go(0, 1);
        due("used after a right", x.person(0, 4), 0);
        x.go(0, 2);
        due("crossing after a right and a left", x.person(0, 0), 3);
        due("used after a left", x.person(0, 4), 1);
    }

    private static void streets() {
        LeftTurns x = Check.city("city 3 2; wall 1 0 1; wall 0 0 0; wall 0 0 2; wall 0 1 0;");
        long[][] want = {{-1, 1, -1, -1}, {-1, -1, 4, 0}, {-1, -1, 5, -1}, {-1, 4, -1, -1}, {1, 5, -1, 3}, {2, -1, -1, 4}};
        for (int c = 0; c < 6; c++) {
            for (int d = 0; d < 4; d++) {
                due("street(" + c + ", " + d + ")", x.street(c, d), want[c][d]);
            }
        }
        due("street(6, 0)", x.street(6, 0), -2);
        due("street(-1, 0)", x.street(-1, 0), -2);
        due("street(0, 4)", x.street(0, 4), -2);
        due("street(0, -1)", x.street(0, -1), -2);
    }

    private static void crossings() {
        LeftTurns x = Check.city("city 2 3; free 1 0; person 0 1 west coins 9; price: 2 + head + sold; hour 5;");
        due("price with head 0", x.crossing(2, 0), 2);
        due("bought with head 3", x.buy(0, 1), 5);
        due("sold", x.crossing(2, 1), 1);
        due("price now", x.crossing(2, 0), 3);
        due("told free", x.crossing(1, 2), 1);
        due("not free", x.crossing(2, 2), 0);
        due("no fog", x.crossing(1, 3), 0);
        due("fog", x.fog(2, 3), 2);
        due("free in fog", x.crossing(2, 2), 1);
        due("hours of fog", x.crossing(2, 3), 3);
        x.hours(2);
        due("hours of fog", x.crossing(2, 3), 1);
        due("free in its last hour", x.crossing(2, 2), 1);
        x.hours(1);
        due("hours of fog", x.crossing(2, 3), 0);
        due("not free behind it", x.crossing(2, 2), 0);
        x.hours(9);
        due("hours of fog long gone", x.crossing(2, 3), 0);
        due("streets of a corner", x.crossing(0, 4), 2);
        due("streets of an edge", x.crossing(2, 4), 3);
        due("crossing(6, 0)", x.crossing(6, 0), -2);
        due("crossing(-1, 0)", x.crossing(-1, 0), -2);
        due("crossing(0, 5)", x.crossing(0, 5), -2);
        due("crossing(0, -1)", x.crossing(0, -1), -2);
    }

    private static void prices() {
        LeftTurns x = Check.city("city 2 2; price: 100*day + 10*x + hour + head*500 - y; hour 30;");
        due("price", x.price(0, 0, 0), 106);
        due("of x", x.price(1, 0, 0), 116);
        due("of y", x.price(2, 0, 0), 105);
        due("of head", x.price(0, 3, 0), 1606);
        due("in hours", x.price(0, 0, 17), 123);
        due("the next day", x.price(0, 0, 18), 200);
        due("in 999", x.price(0, 0, 999), 100 * (1029 / 24) + 1029 % 24);
        due("in 1000", x.price(0, 0, 1000), -3);
        due("in -1", x.price(0, 0, -1), -3);
        due("no crossing, ahead of the number", x.price(4, 0, -1), -2);
        due("no direction", x.price(0, 4, 0), -2);
        due("no direction", x.price(0, -1, 0), -2);
        due("without a law", Check.city("city 2 2;").price(3, 2, 7), 1);
        due("0 at least", Check.city("city 2 2; price: 3 - 5;").price(3, 2, 7), 0);
    }

    private static void lawsCount() {
        due("from left to right", Check.city("city 2 2; price: 10 - 3 - 2;").price(0, 0, 0), 5);
        due("times first", Check.city("city 2 2; price: 2 + 3 * 4 * 5 - 1;").price(0, 0, 0), 61);
        due("brackets", Check.city("city 2 2; price: (2 + 3) * (4 - (1 + 1));").price(0, 0, 0), 10);
        LeftTurns x = Check.city("city 2 2; person 0 1 south; may: 1 = 2 or 1 < 2 and not 2 > 3;");
        due("and ahead of or", x.why(0, 3), 4);
        x = Check.city("city 2 2; person 0 1 south; may: 1 = 1 or 1 = 1 and 1 = 2;");
        due("and ahead of or", x.why(0, 3), 4);
        x = Check.city("city 2 2; person 0 1 south; may: [1 = 1 or 1 = 1] and 1 = 2;");
        due("brackets of truths", x.why(0, 3), 3);
        x = Check.city("city 2 2; person 0 1 south; may: not 1 = 2 and 1 = 2;");
        due("not takes its unit alone", x.why(0, 3), 3);
        x = Check.city("city 2 2; person 0 1 south; may: not not 1 + 1 = 2;");
        due("not of not", x.why(0, 3), 4);
        x = Check.city("city 2 2; person 0 1 south; may: 2 > 2 or 2 < 2;");
        due("more and less are strict", x.why(0, 3), 3);
    }

    private static void lawsAreKept() {
        due("kept at the top", Check.city("city 2 2; price: 999*999*999;").price(0, 0, 0), 1000000);
        due("each step is kept", Check.city("city 2 2; price: 999*999*2 - 999*999;").price(0, 0, 0), 1999);
        due("plus is kept", Check.city("city 2 2; price: 999*999 + 999*3 - 999*999;").price(0, 0, 0), 1999);
        due("minus is kept", Check.city("city 2 2; price: 0 - 999*999 - 999*999 + 999*999 + 999*3;").price(0, 0, 0),
            -1000000 + 998001 + 2997);
        due("times is kept below", Check.city("city 2 2; price: (0-999)*999*999 + 999*999 + 999*3;").price(0, 0, 0),
            -1000000 + 998001 + 2997);
    }

    private static void why() {
        LeftTurns x = Check.city("city 3 3; person 1 1 north; person 0 0 north lefts 1; free 2 2; person 2 2 east;"
            + " person 2 0 east lefts 1; may: head < 3;");
        due("straight", x.why(0, 0), 0);
        due("right", x.why(0, 1), 0);
        due("left is forbidden ahead of lefts that lack", x.why(0, 2), 3);
        due("back without lefts", x.why(0, 3), 4);
        due("no street ahead of all", x.why(1, 2), 2);
        due("back with one", x.why(1, 3), 4);
        due("left at a free one", x.why(2, 2), 0);
        due("the law holds at a free one too", x.why(2, 3), 3);
        due("no street", x.why(3, 2), 2);
        due("no such person", x.why(4, 0), 1);
        due("no such person", x.why(-1, 0), 1);
        due("no such turn", x.why(0, 4), 1);
        due("no such turn", x.why(0, -1), 1);
    }
}
