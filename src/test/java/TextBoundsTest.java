/** The bounds of a text: promises 1 to 4 and what the document's terms say of THE CITY, its TOKENS and FAULTS. */
public final class TextBoundsTest {
    private static final Check CHECK = new Check("TextBoundsTest");
    private static final String SIGNS = ";:+-*()[]=<>";
    private static final String LONG_TEXT = "hour 12;\nprice : 2*(x+1) - sold*hour;city 3 4; wall 0 1 2;free 2 3;person 1 1 north;"
        + "person 2 2 west lefts 12 coins 345; may: not [x < 2 and y > (1)] or head = 3 and day=0;price:7 ;";

    public static void main(String[] args) {
        noText();
        tapeOf900();
        tapeByCalls();
        textsOf900();
        longestLaws();
        everyByteBeginsALine();
        everyByteWithinALine();
        digits();
        wideAndHigh();
        everyNumber();
        coordinates();
        toldAndNotTold();
        people();
        sixWithinOneAnother();
        sixSideBySide();
        cityOnceAndAhead();
        firstAlongTheText();
        leastKindOfOneToken();
        theEnd();
        laterOnes();
        toldTwice();
        faultOfTheLatest();
        cutAnywhere();
        changedAnywhere();
        CHECK.end();
    }

    private static void due(String call, long got, long want) {
        CHECK.due(call, got, want);
    }

    /** Without a text, with an empty one, with one of blanks, with one that tells no city. */
    private static void noText() {
        noCrossings("a new object", new LeftTurns(), 0, 0);
        for (String text : new String[] {"", " ", "\n", " \n \n ".repeat(180)}) {
            LeftTurns x = Check.city("city 2 2; person 0 0 north lefts 3; hour 9; free 1 1;");
            x.fog(0, 5);
            due("city of blanks", Check.read(x, text), 0);
            noCrossings("blanks", x, 0, 0);
        }
        LeftTurns x = Check.city("city 2 2; person 0 0 north lefts 3; hour 9;");
        due("city of laws", Check.read(x, "hour 5; price: x; may: 0 = 1;"), 3);
        noCrossings("laws alone", x, 5, 3);
    }

    private static void noCrossings(String told, LeftTurns x, int hours, int lines) {
        long[] want = {0, 0, 0, hours, 0, 0, 0, 0, lines, 0};
        for (int what = 0; what < want.length; what++) {
            due(told + ": count(" + what + ")", x.count(what), want[what]);
        }
        due(told + ": person", x.person(0, 0), -8);
        due(told + ": street", x.street(0, 0), -2);
        due(told + ": crossing", x.crossing(0, 2), -2);
        due(told + ": cheap", x.cheap(), -1);
        due(told + ": why", x.why(0, 0), 1);
        due(told + ": fault(0)", x.fault(0), 0);
        due(told + ": fault(1)", x.fault(1), -1);
    }

    private static void tapeOf900() {
        LeftTurns x = new LeftTurns();
        for (int i = 1; i <= 45; i++) {
            due("feed " + i, x.feed(0x20202020, 0x20202020, 0x20202020, 0x20202020, 0x20202020), 20 * i);
            due("bytes on the tape", x.count(7), 20 * i);
        }
        for (int i = 0; i < 2; i++) {
            due("a 901st byte", x.feed(0x21212121, 0x21212121, 0x21212121, 0x21212121, 0x21212121), -5);
            due("bytes on the tape", x.count(7), 900);
        }
        for (int n : new int[] {-1, 901, Integer.MIN_VALUE, Integer.MAX_VALUE}) {
            due("city(" + n + ")", x.city(n), -3);
            due("the tape stays", x.count(7), 900);
        }
        due("all 900 are blanks", x.city(900), 0);
        due("the tape is empty", x.count(7), 0);
        due("there is no byte", x.city(1), -3);
        due("but none can be read", x.city(0), 0);
        due("feed", x.feed(0, 0, 0, 0, 0), 20);
        due("21 of 20", x.city(21), -3);
        due("the tape stays", x.count(7), 20);
        due("20 of 20", x.city(20), -31);
        due("the tape is empty behind a fault too", x.count(7), 0);
        due("feed", x.feed(0, 0, 0, 0, 0), 20);
        due("none of 20", x.city(0), 0);
        due("the tape is empty behind fewer", x.count(7), 0);
    }

    /** Each call's bytes come behind those of the calls ahead of it, the highest of each int first. */
    private static void tapeByCalls() {
        String text = "city 4 3;person 3 2 west lefts 98 coins 7;hour 23;free 0 1;"; // over 20 and 40 bytes
        LeftTurns x = new LeftTurns();
        due("lines over three calls", Check.read(x, text), 4);
        CHECK.person(x, 0, 11, 3, 98, 7, 0);
        due("hour", x.count(3), 23);
        due("bytes from 128 on are read as they are", x.feed(0x686f7572, 0x20313bff, -1, -1, -1), 20);
        due("up to them", x.city(7), 1);
        x.feed(0x686f7572, 0x20313bff, -1, -1, -1);
        due("with one of them", x.city(8), -31);
        due("its place", x.fault(1), 7);
        x.feed(0x80686f75, 0x7220313b, 0, 0, 0);
        due("one ahead", x.city(8), -31);
        due("its place", x.fault(1), 0);
    }

    private static void textsOf900() {
        String last = " ".repeat(893) + "hour 7;";
        LeftTurns x = new LeftTurns();
        due("a line in the last bytes", Check.read(x, last), 1);
        due("its hour", x.count(3), 7);
        Check.feed(x, last);
        due("without its last byte", x.city(899), -32);
        due("the end", x.fault(1), 899);
        Check.feed(x, " ".repeat(899) + "!");
        due("without the wrong one", x.city(899), 0);
        Check.feed(x, " ".repeat(899) + "!");
        due("a wrong one at the end", x.city(900), -31);
        due("its place", x.fault(1), 899);
        due("as many lines as can be", Check.read(x, "hour 1;".repeat(128) + "    "), 128);
        due("lines", x.count(8), 128);
        due("a word of 900 letters", Check.read(x, "a".repeat(900)), -32);
        due("its place", x.fault(1), 0);
        due("900 digits", Check.read(x, "1".repeat(900)), -31);
        due("their place", x.fault(1), 0);
    }

    private static void longestLaws() {
        due("442 ones", Check.city("city 2 2;price:1" + "+1".repeat(441) + ";").price(0, 0, 0), 442);
        due("999 less 440", Check.city("city 2 2;price:999" + "-1".repeat(440) + ";").price(3, 2, 9), 559);
        due("441 times 1", Check.city("city 2 2;price:7" + "*1".repeat(441) + ";").price(3, 2, 9), 7);
        due("the last one counts", Check.city("city 2 2;price:7" + "*1".repeat(440) + "*3;").price(3, 2, 9), 21);
        String nots = "city 2 2;person 0 1 south;may:" + "not 1=2 and ".repeat(72);
        due("72 nots that hold", Check.city(nots + "1=1;").why(0, 3), 4);
        due("the last one does not", Check.city(nots + "1=2;").why(0, 3), 3);
        String ors = "city 2 2;person 0 1 south;may:" + "1=2 or ".repeat(123);
        due("123 that don't hold", Check.city(ors + "1>2;").why(0, 3), 3);
        due("the last one does", Check.city(ors + "1<2;").why(0, 3), 4);
        due("deep to the right", Check.city("city 2 2;price:1+2*(1+2*(1+2*(1+2*(1+2*(1+2*(1+2*1))))));").price(0, 0, 0), 255);
        due("deep to the left", Check.city("city 2 2;price:((((((1*2+1)*2+1)*2+1)*2+1)*2+1)*2+1)*2+1;").price(0, 0, 0), 255);
        String deep = "city 2 2;person 0 1 south;may:1=2 or 1=1 and [1=2 or 1=1 and [1=2 or 1=1 and [9";
        due("deep truths that hold", Check.city(deep + "<1+2*(1+2*(1+2*(1+2*1)))]]];").why(0, 3), 4);
        due("deep truths that don't", Check.city(deep + ">1+2*(1+2*(1+2*(1+2*1)))]]];").why(0, 3), 3);
    }

    /** 0: a blank; 2: a token that begins no line; 1: no token begins so. */
    private static int kindOf(int b) {
        if (b == 10 || b == 32) {
            return 0;
        }
        return isLetter(b) || isDigit(b) || SIGNS.indexOf(b) >= 0 ? 2 : 1;
    }

    private static boolean isLetter(int b) {
        return b >= 'a' && b <= 'z';
    }

    private static boolean isDigit(int b) {
        return b >= '0' && b <= '9';
    }

    /** Kind 0 is no fault, and so many lines. */
    private static void told(String text, int kind, int place, int lines) {
        if (kind == 0) {
            CHECK.good(text, lines);
        } else {
            CHECK.faulty(text, kind, place);
        }
    }

    private static void everyByteBeginsALine() {
        for (int b = 0; b < 256; b++) {
            told("" + (char) b, kindOf(b), 0, 0);
            told("hour 1;" + (char) b, kindOf(b), 7, 1);
            told("hour 1; " + (char) b + ";", b == 10 || b == 32 ? 2 : kindOf(b), b == 10 || b == 32 ? 9 : 8, 0);
        }
    }

    private static void everyByteWithinALine() {
        for (int b = 0; b < 256; b++) {
            boolean wordGoesOn = isLetter(b);
            told("hour" + (char) b + "1;", isDigit(b) ? 0 : kindOf(b), wordGoesOn ? 0 : 4, 1);
            boolean joins = isDigit(b) || "+-*".indexOf(b) >= 0;
            int kind = joins ? 0 : kindOf(b) == 0 ? 2 : kindOf(b);
            told("price:1" + (char) b + "1;", kind, kindOf(b) == 0 || b == ';' ? 8 : 7, 1);
        }
    }

    private static void digits() {
        for (String n : new String[] {"0", "7", "00", "07", "10", "99", "000", "007", "099", "100", "999"}) {
            due("hour " + n, Check.city("hour " + n + ";").count(3), Integer.parseInt(n));
            due("price " + n, Check.city("city 2 2;price:" + n + ";").price(0, 0, 0), Integer.parseInt(n));
        }
        for (String n : new String[] {"0000", "0001", "1000", "9999", "00000", "12345678901234567890"}) {
            CHECK.faulty("hour " + n + ";", 1, 5);
            CHECK.faulty("hour 1;price: " + n + ";", 1, 14);
            CHECK.faulty("hour 1; " + n, 1, 8);
        }
        CHECK.good("hour 999;hour 999 ;hour\n999;", 3);
        CHECK.faulty("hour 99 9;", 2, 8);
        CHECK.faulty("hour 999 9;", 2, 9);
    }

    private static void wideAndHigh() {
        for (int wide = 0; wide <= 7; wide++) {
            for (int high = 0; high <= 7; high++) {
                String text = "city " + wide + " " + high + ";";
                if (wide < 2 || wide > 5) {
                    CHECK.faulty(text, 3, 5);
                } else if (high < 2 || high > 5) {
                    CHECK.faulty(text, 3, 7);
                } else {
                    LeftTurns x = Check.city(text);
                    due("wide of " + text, x.count(0), wide);
                    due("high of " + text, x.count(1), high);
                    due("its last crossing", x.crossing(wide * high - 1, 1), 0);
                    due("behind it", x.crossing(wide * high, 1), -2);
                }
            }
        }
        CHECK.faulty("city 999 2;", 3, 5);
        CHECK.faulty("city 2 999;", 3, 7);
    }

    /** A number between two pieces of text: its bounds, one below, one above, four digits, none at all. */
    private static void bounded(String ahead, String behind, int low, int high, int lines) {
        int place = ahead.length();
        CHECK.good(ahead + low + behind, lines);
        CHECK.good(ahead + high + behind, lines);
        if (low > 0) {
            CHECK.faulty(ahead + (low - 1) + behind, 3, place);
        }
        if (high < 999) {
            CHECK.faulty(ahead + (high + 1) + behind, 3, place);
            CHECK.faulty(ahead + 999 + behind, 3, place);
            // The first along the text is told, whatever stands behind it.
            CHECK.faulty(ahead + 999 + "!", 3, place);
        }
        CHECK.faulty(ahead + 1000 + behind, 1, place);
        CHECK.faulty(ahead + "0000" + behind, 1, place);
        CHECK.faulty(ahead + behind, 2, place + behind.length() - behind.stripLeading().length());
        CHECK.faulty(ahead + "-" + low + behind, 2, place);
        CHECK.faulty(ahead + "north" + behind, 2, place);
        CHECK.faulty(ahead, 2, place);
        CHECK.faulty(ahead + "\u00e9", 1, place);
    }

    private static void everyNumber() {
        boundedAhead("city ", " 3", 2, 5, 1);
        bounded("city 3 ", ";", 2, 5, 1);
        boundedAhead("city 3 4;wall ", " 0 0", 0, 2, 2);
        boundedAhead("city 3 4;wall 0 ", " 0", 0, 3, 2);
        bounded("city 3 4;wall 0 0 ", ";", 0, 3, 2);
        boundedAhead("city 3 4;free ", " 0", 0, 2, 2);
        bounded("city 3 4;free 0 ", ";", 0, 3, 2);
        boundedAhead("city 3 4;person ", " 0 east", 0, 2, 2);
        boundedAhead("city 3 4;person 0 ", " east", 0, 3, 2);
        bounded("city 3 4;person 0 0 south lefts ", ";", 0, 99, 2);
        bounded("city 3 4;person 0 0 south lefts ", " coins 5;", 0, 99, 2);
        bounded("city 3 4;person 0 0 south coins ", ";", 0, 999, 2);
        bounded("city 3 4;person 0 0 south lefts 1 coins ", ";", 0, 999, 2);
        bounded("hour ", ";", 0, 999, 1);
        bounded("price : ", ";", 0, 999, 1);
        bounded("price : x+ ", ";", 0, 999, 1);
        bounded("price : x* ", ";", 0, 999, 1);
        bounded("may : x= ", ";", 0, 999, 1);
    }

    /** The same where other numbers or words must follow, and can't come one place earlier. */
    private static void boundedAhead(String ahead, String behind, int low, int high, int lines) {
        int place = ahead.length();
        for (int n = 0; n <= 12; n++) {
            if (n < low || n > high) {
                CHECK.faulty(ahead + n + behind + ";", 3, place);
            } else {
                CHECK.good(ahead + n + behind + ";", lines);
            }
        }
        CHECK.faulty(ahead + 999 + behind + ";", 3, place);
        CHECK.faulty(ahead + 1000 + behind + ";", 1, place);
        CHECK.faulty(ahead + ";", 2, place);
        CHECK.faulty(ahead + "west" + behind + ";", 2, place);
        CHECK.faulty(ahead + low, 2, place + 1);
    }

    /** Places of walls, free ones and people keep to the city's own width and height. */
    private static void coordinates() {
        for (int wide = 2; wide <= 5; wide++) {
            for (int high = 2; high <= 5; high++) {
                String city = "city " + wide + " " + high + ";";
                for (String line : new String[] {"wall ", "free ", "person "}) {
                    String rest = line.equals("wall ") ? " 0;" : line.equals("free ") ? ";" : " east;";
                    CHECK.good(city + line + (wide - 1) + " " + (high - 1) + rest, 2);
                    CHECK.faulty(city + line + wide + " 0" + rest, 3, 9 + line.length());
                    CHECK.faulty(city + line + "0 " + high + rest, 3, 11 + line.length());
                }
                LeftTurns x = Check.city(city + "person " + (wide - 1) + " " + (high - 1) + " east;free 1 " + (high - 1) + ";");
                due("the last crossing", x.person(0, 0), wide * high - 1);
                due("wide times y, and x", x.crossing(wide * (high - 1) + 1, 2), 1);
                due("free ones", x.count(5), 1);
            }
        }
    }

    private static void toldAndNotTold() {
        LeftTurns x = Check.city("city 2 2;person 0 0 north;person 0 0 east lefts 99;person 0 0 south coins 999;"
            + "person 0 0 west lefts 0 coins 0;person 1 1 west lefts 98 coins 998;");
        CHECK.person(x, 0, 0, 0, 0, 0, 0);
        CHECK.person(x, 1, 0, 1, 99, 0, 0);
        CHECK.person(x, 2, 0, 2, 0, 999, 0);
        CHECK.person(x, 3, 0, 3, 0, 0, 0);
        CHECK.person(x, 4, 3, 3, 98, 998, 0);
        due("no hour told", x.count(3), 0);
        due("no price told", x.price(0, 0, 0), 1);
        due("no law told: a left and back may be", x.why(1, 2), 2);
        due("no law told: back may be", x.why(4, 3), 2);
        due("no law told: a left may be", x.why(4, 1), 0);
        CHECK.faulty("city 2 2;person 0 0 north coins 1 lefts 1;", 2, 34);
        CHECK.faulty("city 2 2;person 0 0 north lefts 1 lefts 1;", 2, 34);
        CHECK.faulty("city 2 2;person 0 0 north coins 1 coins 1;", 2, 34);
        for (String head : new String[] {"nort", "northh", "up", "0", ";", "lefts"}) {
            CHECK.faulty("city 2 2;person 0 0 " + head + ";", 2, 20);
        }
    }

    private static void people() {
        StringBuilder text = new StringBuilder("city 2 2;");
        for (int many = 0; many <= 5; many++) {
            LeftTurns x = Check.city(text.toString());
            due("people", x.count(2), many);
            due("the last", x.person(many - 1, 2), many == 0 ? -8 : many - 1);
            due("behind it", x.person(many, 2), -8);
            text.append("person 1 0 east lefts ").append(many).append(";");
        }
        String five = "city 2 2;" + "person 1 0 east;".repeat(5);
        String[] sixths = {"person 1 0 east;", "person", "person 9 9 up", "person !", "person person"};
        for (String sixth : sixths) {
            CHECK.faulty(five + sixth, 4, five.length());
            CHECK.faulty(five + "hour 3; \n " + sixth, 4, five.length() + 10);
        }
        CHECK.good(five + "hour 3;wall 0 0 0;free 1 1;", 9);
        CHECK.faulty(five + "persons", 2, five.length());
        CHECK.faulty(five + "hour person", 2, five.length() + 5);
    }

    /** All rows of not and [ with ( behind them: six are well, the seventh is one too many. */
    private static void sixWithinOneAnother() {
        for (int rounds = 0; rounds <= 7; rounds++) {
            int others = 7 - rounds;
            for (int kinds = 0; kinds < 1 << others; kinds++) {
                StringBuilder text = new StringBuilder("may:");
                StringBuilder ends = new StringBuilder();
                int seventh = 0;
                for (int i = 0; i < others; i++) {
                    seventh = text.length();
                    text.append((kinds >> i & 1) == 0 ? "not " : "[");
                    ends.append((kinds >> i & 1) == 0 ? "" : "]");
                }
                seventh = rounds > 0 ? text.length() + rounds - 1 : seventh;
                CHECK.faulty(text + "(".repeat(rounds) + "1" + ")".repeat(rounds) + "=1" + ends + ";", 4, seventh);
                if (rounds > 0) {
                    CHECK.good(text + "(".repeat(rounds - 1) + "1" + ")".repeat(rounds - 1) + "=1" + ends + ";", 1);
                }
            }
        }
        CHECK.good("may:[[[[[[1=1]]]]]];", 1);
        CHECK.good("may:not not not not not not 1=1;", 1);
        CHECK.good("price:((((((1))))));", 1);
        CHECK.faulty("price:(((((((1)))))));", 4, 12);
        CHECK.faulty("price:(((((((", 4, 12);
        CHECK.faulty("may:[[[[[[[", 4, 10);
        CHECK.faulty("may:not not not not not not not", 4, 28);
    }

    private static void sixSideBySide() {
        CHECK.good("price:((((((1))))))+((((((1))))))*((((((1))))));", 1);
        CHECK.faulty("price:((((((1))))))+(((((((1)))))));", 4, 26);
        CHECK.good("may:((((((1))))))=((((((1))))));", 1);
        CHECK.faulty("may:((((((1))))))=(((((((1)))))));", 4, 24);
        CHECK.good("may:[[[[[[1=1]]]]]] and [[[[[[1=1]]]]]] or [[[[[[1=1]]]]]];", 1);
        CHECK.good("may:not 1=1 and not not not not not not 1=1 or not 1=1;", 1);
        CHECK.good("may:not [ (1) = 1 and not (1) = 1 ] and not [[[[[1=1]]]]];", 1);
        CHECK.good("may:[(((((1)))))=1 or not ((((1))))=1];", 1);
        CHECK.faulty("may:[(((((1)))))=1 or not (((((1)))))=1];", 4, 30);
        CHECK.good("price:((((((1))))));price:((((((1))))));may:[[[[[[1=1]]]]]];", 3);
    }

    private static void cityOnceAndAhead() {
        CHECK.faulty("city 2 2;city 2 2;", 2, 9);
        CHECK.faulty("city 2 2;hour 1; city 9 9;", 2, 17);
        CHECK.faulty("city 2 2;city", 2, 9);
        CHECK.faulty("city 2 2;city !", 2, 9);
        for (String line : new String[] {"wall 0 0 0;", "free 0 0;", "person 0 0 north;", "wall", "free", "person", "wall !"}) {
            CHECK.faulty(line + "city 2 2;", 2, 0);
            CHECK.faulty("hour 1;\n" + line + "city 2 2;", 2, 8);
        }
        CHECK.good("hour 1;price:1;may:1=1;city 2 2;wall 0 0 0;free 0 0;person 0 0 north;", 7);
        CHECK.good("city 2 2;person 0 0 north;free 0 0;wall 0 0 0;may:1=1;price:1;hour 1;", 7);
    }

    private static void firstAlongTheText() {
        CHECK.faulty("city 6 2; !", 3, 5);
        CHECK.faulty("city 2 2; ! city 6 2;", 1, 10);
        CHECK.faulty("town !", 2, 0);
        CHECK.faulty("price:(((((((1!", 4, 12);
        CHECK.faulty("price:1 1 (((((((1", 2, 8);
        CHECK.faulty("hour 1 hour 1000;", 2, 7);
        CHECK.faulty("hour 1000 hour;", 1, 5);
        CHECK.faulty("city 2 2;wall 2 9 9;", 3, 14);
        CHECK.faulty("city 2 2;wall 0 9 9;", 3, 16);
        CHECK.faulty("city 2 2;free 0 0", 2, 17);
    }

    private static void leastKindOfOneToken() {
        // Four digits where no number can stand, or where one would be out of its bounds.
        CHECK.faulty("1234", 1, 0);
        CHECK.faulty("hour 1 1234", 1, 7);
        CHECK.faulty("city 1234 2;", 1, 5);
        CHECK.faulty("city 2 2;person 0 0 east lefts 1234;", 1, 31);
        // A number out of all bounds where no number can stand.
        CHECK.faulty("city 2 2 999;", 2, 9);
        CHECK.faulty("city 2 2;wall 0 0 0 999;", 2, 20);
        CHECK.faulty("999;", 2, 0);
        // A seventh one, or a sixth person, where it can't stand.
        CHECK.faulty("price:((((((1(", 2, 13);
        CHECK.faulty("price:(((((([", 2, 12);
        CHECK.faulty("price:((((((not", 2, 12);
        CHECK.faulty("may:(((((([", 2, 10);
        CHECK.faulty("may:[[[[[[1[", 2, 11);
        CHECK.faulty("may:[[[[[[1=1 not", 2, 14);
        CHECK.faulty("city 2 2;" + "person 1 0 east;".repeat(5) + "hour person", 2, 94);
    }

    private static void theEnd() {
        String[] parts = {"city", "city 2", "city 2 2", "hour", "hour 1", "price", "price:", "price:1", "price:1+", "price:(1", "may",
            "may:", "may:1", "may:1=", "may:1=1", "may:not", "may:[1=1", "may:1=1 and", "city 2 2;wall", "city 2 2;person 0 0",
            "city 2 2;person 0 0 east", "city 2 2;person 0 0 east lefts", "city 2 2;person 0 0 east coins 2"};
        for (String part : parts) {
            CHECK.faulty(part, 2, part.length());
            CHECK.faulty(part + " ", 2, part.length() + 1);
            CHECK.faulty(part + " \n \n", 2, part.length() + 4);
        }
    }

    private static void laterOnes() {
        due("the later hour", Check.city("hour 5;hour 0;").count(3), 0);
        due("the last hour", Check.city("hour 5;hour 0;hour 999;").count(3), 999);
        due("the later price", Check.city("city 2 2;price:5*5;price:7;").price(0, 0, 0), 7);
        due("the longer price", Check.city("city 2 2;price:7;price:5*5;").price(0, 0, 0), 25);
        String back = "city 2 2;person 0 1 south;";
        due("the later law", Check.city(back + "may:0=1;may:1=1;").why(0, 3), 4);
        due("the later law", Check.city("may:1=1;" + back + "may:0=1;").why(0, 3), 3);
        due("no law of an earlier text", priceAfter("city 2 2;price:9;", "city 2 2;"), 1);
        due("no hour of an earlier text", hourAfter("hour 9;", "city 2 2;"), 0);
        due("nothing of a faulty text", priceAfter("city 2 2;price:9;", "city 2 2;price:8;!"), 9);
        due("nothing of a faulty text", priceAfter("city 2 2;", "city 2 2;price:8;!"), 1);
    }

    private static int priceAfter(String text, String later) {
        LeftTurns x = Check.city(text);
        Check.read(x, later);
        return x.price(0, 0, 0);
    }

    private static int hourAfter(String text, String later) {
        LeftTurns x = Check.city(text);
        Check.read(x, later);
        return x.count(3);
    }

    private static void toldTwice() {
        LeftTurns x = Check.city("city 3 2;free 1 1;free 1 1;free 1 1;wall 1 0 1;wall 1 0 1;wall 2 0 3;wall 0 0 0;");
        due("free ones", x.count(5), 1);
        due("the wall", x.street(1, 1), -1);
        due("and back", x.street(2, 3), -1);
        due("streets beside it", x.crossing(1, 4), 2);
        due("over the edge", x.crossing(0, 4), 2);
        due("lines", x.count(8), 8);
    }

    /** Of the latest city() that was read: a refused one is none. */
    private static void faultOfTheLatest() {
        LeftTurns x = new LeftTurns();
        for (int what : new int[] {-1, 2, Integer.MIN_VALUE, Integer.MAX_VALUE}) {
            due("fault(" + what + ")", x.fault(what), -1);
        }
        Check.read(x, "hour !");
        due("fault(2) of a faulty one", x.fault(2), -1);
        due("fault(-1) of a faulty one", x.fault(-1), -1);
        due("refused", x.city(1), -3);
        due("refused", x.city(-1), -3);
        due("the fault stays", x.fault(0), 1);
        due("its place stays", x.fault(1), 5);
        x.image(0);
        Check.read(x, "city 6 6;");
        x.restore(0);
        due("restore leaves it", x.fault(0), 3);
        due("a later one", Check.read(x, "hour"), -32);
        due("its fault", x.fault(0), 2);
        due("its place", x.fault(1), 4);
        due("a good one", x.city(0), 0);
        due("no fault", x.fault(0), 0);
        due("no place", x.fault(1), -1);
    }

    private static void likeTheModel(String text) {
        LeftTurns x = new LeftTurns();
        Model model = Check.model(text);
        int answer = Check.read(x, text);
        due("fault(0) of " + text, x.fault(0), model.fault(0));
        due("fault(1) of " + text, x.fault(1), model.fault(1));
        due("city of " + text, answer, model.fault(0) > 0 ? -30 - model.fault(0) : model.count(8));
    }

    private static void cutAnywhere() {
        for (int n = 0; n <= LONG_TEXT.length(); n++) {
            likeTheModel(LONG_TEXT.substring(0, n));
            likeTheModel(LONG_TEXT.substring(n));
        }
    }

    private static void changedAnywhere() {
        String odd = ";9x !([-\u00e9\0";
        for (int i = 0; i < LONG_TEXT.length(); i++) {
            for (int j = 0; j < odd.length(); j++) {
                likeTheModel(LONG_TEXT.substring(0, i) + odd.charAt(j) + LONG_TEXT.substring(i + 1));
                likeTheModel(LONG_TEXT.substring(0, i) + odd.charAt(j) + LONG_TEXT.substring(i));
            }
        }
    }
}
