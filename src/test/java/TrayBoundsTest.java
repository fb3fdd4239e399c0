/** The bounds of trays, images and counts: promises 37 to 42. */
public final class TrayBoundsTest {
    private static final Check CHECK = new Check("TrayBoundsTest");
    private static final String OPEN = "city 3 3;person 1 1 north;";

    public static void main(String[] args) {
        missingAtFirst();
        sizes();
        laidAnew();
        sorts();
        readAsTheyAreThere();
        listsBySize();
        listsLeaveTheRest();
        listsOfNone();
        imagesAtFirst();
        imagesOfNothing();
        imagesHoldAll();
        imagesHoldNoMore();
        nothingUndoneBehind();
        counts();
        callsUpTo512();
        CHECK.end();
    }

    private static void due(String call, long got, long want) {
        CHECK.due(call, got, want);
    }

    private static void missingAtFirst() {
        LeftTurns x = Check.city(OPEN);
        for (int tray = 0; tray < 4; tray++) {
            due("write", x.write(tray, 0, 1), -6);
            due("judge", x.judge(tray, 0), -6);
            due("walk", x.walk(tray), -6);
            due("round", x.round(0, tray, 0), -6);
            due("found", x.found(0, tray, 0), -6);
            due("lists", x.lists(tray, 0, 1, 0), -6);
        }
        for (int tray : new int[] {-1, 4, Integer.MIN_VALUE, Integer.MAX_VALUE}) {
            due("numbers", x.numbers(tray, 0, 1), -2);
            due("write", x.write(tray, 0, 1), -2);
            due("judge", x.judge(tray, 0), -2);
            due("walk", x.walk(tray), -2);
            due("round", x.round(0, tray, 0), -2);
            due("found", x.found(0, tray, 0), -2);
            due("lists", x.lists(tray, 0, 1, 0), -2);
        }
        x.numbers(2, 0, 0);
        due("an empty one is not missing", x.judge(2, 0), 0);
        due("the others still are", x.judge(1, 0), -6);
        due("the others still are", x.judge(3, 0), -6);
    }

    private static void sizes() {
        for (int sort = 0; sort < 4; sort++) {
            for (int n : new int[] {0, 1, 2, 39, 40}) {
                LeftTurns x = new LeftTurns();
                due("numbers of sort " + sort, x.numbers(3, sort, n), 0);
                due("the first", x.write(3, 0, 7), n > 0 ? 7 : -7);
                due("the last", x.write(3, n - 1, 7), n > 0 ? 7 : -7);
                due("behind it", x.write(3, n, 7), -7);
                due("ahead of the first", x.write(3, -1, 7), -7);
                due("far behind", x.write(3, Integer.MAX_VALUE, 7), -7);
                due("far ahead", x.write(3, Integer.MIN_VALUE, 7), -7);
            }
        }
        LeftTurns x = new LeftTurns();
        for (int n : new int[] {-1, 41, Integer.MIN_VALUE, Integer.MAX_VALUE}) {
            due("numbers " + n, x.numbers(0, 0, n), -3);
            due("it is missing still", x.write(0, 0, 1), -6);
        }
        x.numbers(0, 1, 3);
        for (int n : new int[] {-1, 41}) {
            due("numbers " + n, x.numbers(0, 0, n), -3);
            due("it stays as long", x.write(0, 2, 300), 300);
            due("and no longer", x.write(0, 3, 300), -7);
        }
        for (int sort : new int[] {-1, 4, Integer.MIN_VALUE, Integer.MAX_VALUE}) {
            due("sort " + sort, x.numbers(0, sort, 1), -2);
            due("sort " + sort + " ahead of n", x.numbers(0, sort, 41), -2);
            due("it stays", x.write(0, 2, 300), 300);
        }
    }

    /** All numbers are 0 in a tray that takes another one's place, also where the other one was longer or shorter. */
    private static void laidAnew() {
        LeftTurns x = Check.city("city 5 5;person 2 2 north;person 0 0 south;");
        x.numbers(0, 3, 4);
        for (int i = 0; i < 4; i++) {
            x.write(0, i, 24 - i);
        }
        x.numbers(0, 0, 2);
        due("0", x.round(0, 0, 10), 0);
        due("0", x.round(0, 0, 11), 0);
        x.numbers(0, 3, 4);
        for (int k = 10; k < 14; k++) {
            due("0 behind a shorter one", x.round(0, 0, k), 0);
        }
        due("none behind", x.round(0, 0, 14), -1);
        x.numbers(1, 0, 40);
        for (int i = 0; i < 40; i++) {
            x.write(1, i, 99);
        }
        x.numbers(1, 0, 40);
        x.write(1, 0, 1);
        CHECK.judged(x, 1, 5, 2, 20, 0);
        x.write(1, 0, 0);
        CHECK.judged(x, 1, 3, 2, 2, 0);
        due("the same again", x.numbers(1, 0, 40), 0);
        due("another sort", x.numbers(1, 3, 40), 0);
        due("64 bits", x.write(1, 39, Long.MIN_VALUE), Long.MIN_VALUE);
        due("another sort", x.numbers(1, 0, 40), 0);
        due("8 bits", x.write(1, 39, Long.MIN_VALUE), 0);
    }

    /** A number is cut to its bits: the highest of those is its sign. */
    private static void sorts() {
        LeftTurns x = new LeftTurns();
        for (int sort = 0; sort < 3; sort++) {
            int bits = 8 << sort;
            long high = 1L << bits - 1;
            x.numbers(sort, sort, 2);
            long[][] cut = {{0, 0}, {1, 1}, {-1, -1}, {high - 1, high - 1}, {high, -high}, {high + 1, 1 - high}, {-high, -high},
                {-high - 1, high - 1}, {2 * high - 1, -1}, {2 * high, 0}, {2 * high + 1, 1}, {-2 * high, 0}, {-2 * high - 1, -1},
                {Long.MAX_VALUE, -1}, {Long.MIN_VALUE, 0}, {Long.MIN_VALUE + 5, 5}};
            for (long[] pair : cut) {
                due(pair[0] + " in " + bits + " bits", x.write(sort, 1, pair[0]), pair[1]);
            }
        }
        x.numbers(3, 3, 1);
        for (long v : new long[] {0, -1, 1L << 31, 1L << 32, Long.MAX_VALUE, Long.MIN_VALUE}) {
            due(v + " in 64 bits", x.write(3, 0, v), v);
        }
    }

    private static void readAsTheyAreThere() {
        for (int sort = 0; sort < 4; sort++) {
            LeftTurns x = Check.city(OPEN);
            x.numbers(0, sort, 2);
            long round = sort == 3 ? 0 : 1L << (8 << sort);
            x.write(0, 0, round);
            x.write(0, 1, round + 1);
            CHECK.judged(x, 0, -1, 0, 5, 0);
            due("as crossings", x.round(0, 0, 11), 0);
            x.write(0, 1, round - 1);
            CHECK.judged(x, 0, 1, 1, 4, 0);
            due("below 0", x.round(0, 0, 0), -3);
            due("below 0", x.found(0, 0, 0), -3);
        }
        LeftTurns y = Check.city("city 5 5;person 2 2 north;");
        y.numbers(0, 3, 1);
        for (long c : new long[] {25, -1, 1L << 32, (1L << 32) + 24, -1L << 32, Long.MIN_VALUE, Long.MAX_VALUE}) {
            y.write(0, 0, c);
            due("no crossing " + c, y.round(0, 0, 0), -3);
            due("no crossing " + c, y.found(0, 0, 0), -3);
        }
        y.write(0, 0, 24);
        CHECK.due("the last crossing", y.round(0, 0, 0) == 0);
    }

    /** To 3 by rights: straight, three rights, straight; with the person six numbers. */
    private static void listsBySize() {
        int[] on = {4, 1, 2, 5, 4, 3};
        for (int sort = 0; sort < 4; sort++) {
            for (int n : new int[] {0, 1, 2, 5, 6, 7, 40}) {
                LeftTurns x = Check.city("city 3 3;person 0 0 north;person 1 1 north;");
                x.numbers(2, sort, n);
                int came = Math.min(6, n);
                due("lists into " + n, x.lists(2, 1, 3, 0), came);
                due("the crossing then", x.judge(2, 2), n == 0 ? -1 : n <= 6 ? on[n - 1] : 3);
                due("the tray is as long as it was", x.write(2, n, 1), -7);
                due("nothing has changed", x.count(3), 0);
                due("it can't be undone", x.count(6), 0);
            }
        }
        LeftTurns y = Check.city(OPEN);
        y.numbers(0, 0, 5);
        due("to where it is", y.lists(0, 0, 4, 0), 1);
        LeftTurns z = Check.city(Gate.open(37));
        z.numbers(0, 0, 40);
        due("39 numbers", z.lists(0, 0, 5, 1), 39);
        due("it leads there, with a left to be had", z.judge(0, 1), 4);
        LeftTurns w = Check.city(Gate.open(38));
        w.numbers(0, 0, 40);
        due("40 numbers", w.lists(0, 0, 5, 1), 40);
        CHECK.judged(w, 0, 39, 4, 4, 0);
        LeftTurns v = Check.city(Gate.open(39));
        v.numbers(0, 0, 40);
        due("40 of 41", v.lists(0, 0, 5, 1), 40);
        CHECK.judged(v, 0, -1, 0, 4, 0);
    }

    private static void listsLeaveTheRest() {
        LeftTurns x = Check.city(OPEN);
        Check.tray(x, 0, 9, 9, 1, 9);
        due("to 1", x.lists(0, 0, 1, 0), 2);
        CHECK.judged(x, 0, 3, 1, 2, 0);
        Check.tray(x, 0, 9, 9, 1, 9);
        due("refused", x.lists(0, 0, 1, 121), -3);
        CHECK.judged(x, 0, 0, 1, -1, 0);
        x.write(0, 0, 0);
        CHECK.judged(x, 0, 1, 1, 4, 0);
    }

    private static void listsOfNone() {
        LeftTurns x = Check.city("city 2 2;person 1 0 west;");
        Check.tray(x, 0, 0, 0);
        due("none without a left", x.lists(0, 0, 3, 0), -5);
        CHECK.judged(x, 0, -1, 0, 0, 0);
        due("one with it", x.lists(0, 0, 3, 1), 2);
        CHECK.judged(x, 0, 1, 4, 1, 0);
        for (int k : new int[] {0, 120}) {
            due("k " + k, x.lists(0, 0, 0, k), 2);
        }
        for (int k : new int[] {-1, 121}) {
            due("k " + k, x.lists(0, 0, 0, k), -3);
        }
    }

    private static void imagesAtFirst() {
        LeftTurns x = Check.city(OPEN);
        due("none at first", x.restore(0), -5);
        due("none at first", x.restore(1), -5);
        for (int i : new int[] {-1, 2, Integer.MIN_VALUE, Integer.MAX_VALUE}) {
            due("image(" + i + ")", x.image(i), -2);
            due("restore(" + i + ")", x.restore(i), -2);
        }
        due("made", x.image(0), 0);
        due("the other one isn't", x.restore(1), -5);
        due("restored", x.restore(0), 0);
        due("as often as one likes", x.restore(0), 0);
        Check.read(x, "city 2 2;");
        due("a city leaves images", x.restore(0), 0);
        due("wide", x.count(0), 3);
        due("and those not made", x.restore(1), -5);
    }

    private static void imagesOfNothing() {
        LeftTurns x = new LeftTurns();
        x.hours(5);
        due("made of no city", x.image(1), 0);
        x.hours(5);
        Check.read(x, OPEN);
        due("restored", x.restore(1), 0);
        due("hours", x.count(3), 5);
        due("wide", x.count(0), 0);
        due("people", x.count(2), 0);
        due("lines", x.count(8), 0);
        due("nothing undone", x.count(6), 0);
        due("no crossing", x.street(0, 0), -2);
    }

    private static LeftTurns lived() {
        LeftTurns x = Check.city("city 4 3;free 3 2;wall 1 1 1;price:2+sold;may:not hour=9;person 1 1 north lefts 9 coins 50;"
            + "person 1 1 east;hour 7;");
        x.buy(0, 2);
        x.hand(0, 1, 3);
        x.go(0, 2);
        x.fog(0, 9);
        return x;
    }

    private static void imagesHoldAll() {
        LeftTurns x = lived();
        x.image(0);
        Check.read(x, "city 2 2;person 1 1 south;free 0 0;");
        x.hours(9);
        x.image(1);
        Check.read(x, "");
        x.restore(0);
        LeftTurns y = lived();
        for (int what = 0; what < 10; what++) {
            due("count(" + what + ")", x.count(what), what == 6 ? 0 : y.count(what));
        }
        for (int p = 0; p < 2; p++) {
            CHECK.person(x, p, y.person(p, 0), y.person(p, 1), y.person(p, 2), y.person(p, 3), y.person(p, 4));
        }
        for (int c = 0; c < 12; c++) {
            for (int what = 0; what < 5; what++) {
                due("crossing(" + c + ", " + what + ")", x.crossing(c, what), y.crossing(c, what));
            }
        }
        due("the law", x.hours(1), 9);
        due("forbids", x.why(0, 2), 3);
        x.restore(1);
        due("the other one", x.count(0), 2);
        due("its hours", x.count(3), 9);
        due("its people", x.count(2), 1);
        due("its law", x.why(0, 3), 4);
        x.restore(0);
        due("the first again, untouched by deeds behind it", x.count(3), 8);
    }

    /** The tape, the trays, the fault of the latest text and the other image are no part of it. */
    private static void imagesHoldNoMore() {
        LeftTurns x = Check.city(OPEN);
        x.image(0);
        x.numbers(0, 0, 2);
        x.write(0, 1, 1);
        Check.read(x, "hour !");
        Check.feed(x, "hour 5;");
        x.image(1);
        x.hours(1);
        x.restore(0);
        due("the tape", x.count(7), 20);
        due("the tray", x.judge(0, 2), 5);
        due("the fault", x.fault(0), 1);
        due("its place", x.fault(1), 5);
        due("the other image", x.restore(1), 0);
        due("the text on the tape", x.city(7), 1);
        due("its hour", x.count(3), 5);
        x.hours(3);
        due("an image in place of another", x.image(0), 0);
        x.hours(3);
        x.restore(0);
        due("the later one", x.count(3), 8);
    }

    private static void nothingUndoneBehind() {
        LeftTurns x = lived();
        due("four can be undone", x.count(6), 4);
        due("made", x.image(0), 0);
        due("an image takes none of them", x.count(6), 4);
        due("undone", x.undo(1), 3);
        due("no fog", x.crossing(0, 3), 0);
        due("restored", x.restore(0), 0);
        due("fog", x.crossing(0, 3), 9);
        due("nothing can be undone", x.count(6), 0);
        due("undo", x.undo(1), -3);
        x.hours(1);
        due("but what comes behind", x.undo(1), 0);
        due("fog", x.crossing(0, 3), 9);
        due("no more", x.undo(1), -3);
    }

    private static void counts() {
        LeftTurns x = lived();
        Check.feed(x, " ".repeat(40));
        long[] want = {4, 3, 2, 8, 2, 2, 4, 40, 8, 10};
        for (int what = 0; what < want.length; what++) {
            due("count(" + what + ")", x.count(what), want[what]);
        }
        for (int what : new int[] {-1, 10, Integer.MIN_VALUE, Integer.MAX_VALUE}) {
            due("count(" + what + ")", x.count(what), -1);
        }
        LeftTurns most = Check.city("city 5 5;" + "person 4 4 north lefts 99;".repeat(5));
        due("lefts of all", most.count(9), 495);
        for (int c = 0; c < 25; c++) {
            most.fog(c, 1);
        }
        due("all are free", most.count(5), 25);
    }

    /** All 512 calls of an object answer as the first ones do. */
    private static void callsUpTo512() {
        LeftTurns x = new LeftTurns();
        for (int i = 1; i <= 510; i++) {
            due("hours", x.hours(99), 99 * i);
        }
        due("can be undone", x.count(6), 10);
        due("undone", x.undo(10), 0);
        LeftTurns y = Check.city("city 2 2;person 0 0 north lefts 99;person 0 0 north;price:0;");
        for (int i = 1; i <= 169; i++) {
            y.hand(0, 1, 20);
            due("buy", y.buy(0, 20), 0);
            y.undo(2);
        }
        due("sold", y.count(4), 0);
    }
}
