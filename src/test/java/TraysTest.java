/** Promises 37 to 42: trays, images, counts. */
public final class TraysTest {
    private static final Check CHECK = new Check("TraysTest");

    public static void main(String[] args) {
        numbers();
        written();
        lists();
        images();
        imagesAreApart();
        counts();
        CHECK.end();
    }

    private static void due(String call, long got, long want) {
        CHECK.due(call, got, want);
    }

    private static void numbers() {
        LeftTurns x = new LeftTurns();
        for (int tray = 0; tray < 4; tray++) {
            due("missing at first", x.write(tray, 0, 1), -6);
            due("laid", x.numbers(tray, tray, 40), 0);
            due("the last", x.write(tray, 39, 1), 1);
            due("behind it", x.write(tray, 40, 1), -7);
        }
        due("no such tray", x.numbers(4, 0, 0), -2);
        due("no such tray", x.numbers(-1, 0, 0), -2);
        due("no such sort", x.numbers(0, 4, 0), -2);
        due("no such sort, ahead of n", x.numbers(0, -1, -1), -2);
        due("n", x.numbers(0, 0, 41), -3);
        due("n", x.numbers(0, 0, -1), -3);
        due("the tray stays", x.write(0, 39, 1), 1);
        due("an empty one", x.numbers(0, 0, 0), 0);
        due("has no number", x.write(0, 0, 1), -7);
        LeftTurns y = Check.city("city 3 3; person 1 1 north;");
        Check.tray(y, 0, 1, 1, 1);
        due("nobody", y.judge(0, 0), 0);
        y.numbers(0, 2, 2);
        due("all are 0", y.judge(0, 2), 1);
    }

    private static void written() {
        LeftTurns x = new LeftTurns();
        long[] values = {0, 1, -1, 127, 128, 255, 256, -128, -129, 32767, 32768, 65535, 65536, 2147483647L, 2147483648L,
            4294967295L, 4294967296L, Long.MAX_VALUE, Long.MIN_VALUE};
        for (int sort = 0; sort < 4; sort++) {
            x.numbers(sort, sort, 3);
            for (long v : values) {
                long cut = sort == 0 ? (byte) v : sort == 1 ? (short) v : sort == 2 ? (int) v : v;
                due("write(" + sort + ", 2, " + v + ")", x.write(sort, 2, v), cut);
            }
        }
        due("200 in 8 bits", x.write(0, 0, 200), -56);
        due("40000 in 16 bits", x.write(1, 0, 40000), -25536);
        due("no such tray", x.write(4, 0, 0), -2);
        due("no such tray", x.write(-1, 0, 0), -2);
        due("no such number", x.write(0, 3, 0), -7);
        due("no such number", x.write(0, -1, 0), -7);
        LeftTurns y = Check.city("city 3 3; person 1 1 north;");
        y.numbers(0, 0, 2);
        y.write(0, 0, 256);
        y.write(0, 1, 257);
        due("a walk by cut numbers", y.walk(0), 1);
        due("went right", y.person(0, 0), 5);
    }

    private static void lists() {
        LeftTurns x = Check.city("city 3 3; person 0 0 south; person 1 1 north;");
        due("missing", x.lists(0, 1, 3, 0), -6);
        due("missing, ahead of k", x.lists(0, 1, 3, -1), -6);
        due("no such tray", x.lists(4, 1, 3, 0), -2);
        due("no such tray", x.lists(-1, 1, 3, 0), -2);
        due("nobody, ahead of missing", x.lists(0, 2, 3, 0), -2);
        due("no crossing", x.lists(0, 1, 9, 0), -2);
        x.numbers(0, 0, 40);
        due("k", x.lists(0, 1, 3, -1), -3);
        due("k", x.lists(0, 1, 3, 121), -3);
        due("there is none", Check.city("city 2 2; person 1 0 west;").numbers(0, 0, 4), 0);
        x.numbers(0, 0, 6);
        due("the whole of it", x.lists(0, 1, 3, 0), 6);
        due("can be gone", x.judge(0, 0), -1);
        due("with as many lefts as can be", x.lists(0, 1, 1, 120), 2);
        due("the whole of it again", x.lists(0, 1, 3, 0), 6);
        due("leads there", x.judge(0, 2), 3);
        x.numbers(0, 0, 4);
        due("as many as it has places", x.lists(0, 1, 3, 0), 4);
        due("leads on its way", x.judge(0, 2), 5);
        x.numbers(0, 0, 0);
        due("no places", x.lists(0, 1, 3, 0), 0);
        Check.tray(x, 0, 0, 0, 0, 9);
        due("a short way", x.lists(0, 1, 1, 0), 2);
        due("the rest stays", x.judge(0, 0), 2);
        Check.tray(x, 0, 0, 0);
        due("where it is", x.lists(0, 1, 4, 0), 1);
        LeftTurns y = Check.city("city 2 2; person 1 0 west;");
        Check.tray(y, 0, 0, 0);
        due("there is none", y.lists(0, 0, 3, 0), -5);
        due("the tray stays", y.judge(0, 2), 0);
    }

    private static void images() {
        LeftTurns x = Check.city("city 3 2; person 1 1 north lefts 3 coins 9; free 0 0; wall 0 0 1; price: 2 + sold; may: hour < 9; hour 4;");
        due("none made", x.restore(0), -5);
        due("no such image", x.restore(2), -2);
        due("no such image", x.restore(-1), -2);
        due("no such image", x.image(2), -2);
        due("no such image", x.image(-1), -2);
        x.fog(5, 9);
        x.buy(0, 1);
        due("made", x.image(1), 0);
        due("what can be undone stays", x.count(6), 2);
        due("the other is none", x.restore(0), -5);
        x.go(0, 0);
        x.hours(9);
        Check.read(x, "city 2 2; price: 77;");
        due("the other city", x.count(0), 2);
        due("restored", x.restore(1), 0);
        due("wide", x.count(0), 3);
        due("high", x.count(1), 2);
        due("people", x.count(2), 1);
        due("hours", x.count(3), 4);
        due("sold", x.count(4), 1);
        due("free", x.count(5), 2);
        due("nothing can be undone", x.count(6), 0);
        due("undo", x.undo(1), -3);
        due("lines", x.count(8), 7);
        due("lefts", x.person(0, 2), 4);
        due("coins", x.person(0, 3), 7);
        due("the wall", x.street(0, 1), -1);
        due("the price", x.price(4, 0, 0), 3);
        due("the law", x.why(0, 2), 0);
        x.hours(5);
        due("the law", x.why(0, 2), 3);
        due("restored once more", x.restore(1), 0);
        due("hours", x.count(3), 4);
    }

    private static void imagesAreApart() {
        LeftTurns x = new LeftTurns();
        x.image(0);
        Check.read(x, "city 2 2;");
        x.hours(3);
        x.image(1);
        x.numbers(0, 0, 3);
        Check.feed(x, "city 3 3;");
        x.restore(0);
        due("without a city", x.count(0), 0);
        due("without hours", x.count(3), 0);
        due("the tape stays", x.count(7), 20);
        due("trays stay", x.write(0, 2, 5), 5);
        due("hours", x.hours(1), 1);
        x.restore(1);
        due("with a city", x.count(0), 2);
        due("with hours", x.count(3), 3);
        due("city", x.city(9), 1);
        due("trays stay", x.write(0, 2, 5), 5);
        x.restore(1);
        due("images stay", x.count(0), 2);
        due("image in place of another", x.image(0), 0);
        Check.read(x, "city 4 4;");
        x.restore(0);
        due("the later one", x.count(0), 2);
        Check.read(x, "!");
        x.restore(0);
        due("the fault of the latest text", x.fault(0), 1);
    }

    private static void counts() {
        LeftTurns x = Check.city("city 4 3; person 0 0 south lefts 2 coins 5; person 1 1 east lefts 3; free 0 0; hour 8;");
        x.buy(0, 2);
        x.go(1, 0);
        Check.feed(x, "hour");
        long[] want = {4, 3, 2, 9, 2, 1, 2, 20, 5, 7};
        for (int what = 0; what < 10; what++) {
            due("count(" + what + ")", x.count(what), want[what]);
        }
        due("count(10)", x.count(10), -1);
        due("count(-1)", x.count(-1), -1);
    }
}
