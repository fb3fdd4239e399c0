/** What the tests share: answers that are due, and cities told as texts. */
final class Check {
    private final String name;
    private int asked;
    private int wrong;

    Check(String name) {
        this.name = name;
    }

    void due(String call, long got, long want) {
        asked++;
        if (got != want) {
            wrong++;
            System.out.println(name + ": " + call + " answered " + got + ", due is " + want);
        }
    }

    void due(String call, boolean got) {
        due(call, got ? 1 : 0, 1);
    }

    void end() {
        System.out.println(name + ": " + asked + " asked, " + wrong + " wrong");
        if (wrong > 0) {
            System.exit(1);
        }
    }

    /** What is told of a person: its crossing, heading, lefts, coins, used ones. */
    void person(LeftTurns x, int p, long... want) {
        for (int what = 0; what < want.length; what++) {
            due("person(" + p + ", " + what + ")", x.person(p, what), want[what]);
        }
    }

    /** The first place that can't be, why, the crossing then, the lefts taken. */
    void judged(LeftTurns x, int tray, long... want) {
        for (int what = 0; what < want.length; what++) {
            due("judge(" + tray + ", " + what + ")", x.judge(tray, what), want[what]);
        }
    }

    /** A text has a fault; all but the tape is then as it was. */
    void faulty(String text, int kind, int place) {
        LeftTurns x = city("city 2 3; hour 7;");
        x.hours(1);
        due("city of " + text, read(x, text), -30 - kind);
        due("fault(0) of " + text, x.fault(0), kind);
        due("fault(1) of " + text, x.fault(1), place);
        due("wide after " + text, x.count(0), 2);
        due("hours after " + text, x.count(3), 8);
        due("what can be undone after " + text, x.count(6), 1);
        due("the tape after " + text, x.count(7), 0);
        due("lines after " + text, x.count(8), 2);
    }

    /** A text has no fault, and so many lines. */
    void good(String text, int lines) {
        LeftTurns x = new LeftTurns();
        due("city of " + text, read(x, text), lines);
        due("fault(0) of " + text, x.fault(0), 0);
        due("fault(1) of " + text, x.fault(1), -1);
        due("lines of " + text, x.count(8), lines);
    }

    /** Feeds a text, with blanks behind it up to a multiple of 20. */
    static void feed(LeftTurns x, String text) {
        for (int i = 0; i < text.length(); i += 20) {
            x.feed(four(text, i), four(text, i + 4), four(text, i + 8), four(text, i + 12), four(text, i + 16));
        }
    }

    /** A model of the city of a text. */
    static Model model(String text) {
        Model model = new Model();
        for (int i = 0; i < text.length(); i += 20) {
            model.feed(four(text, i), four(text, i + 4), four(text, i + 8), four(text, i + 12), four(text, i + 16));
        }
        model.city(text.length());
        return model;
    }

    private static int four(String text, int from) {
        int value = 0;
        for (int i = from; i < from + 4; i++) {
            value = value << 8 | (i < text.length() ? text.charAt(i) & 255 : ' ');
        }
        return value;
    }

    /** Feeds a text to an empty tape and reads it. */
    static int read(LeftTurns x, String text) {
        feed(x, text);
        return x.city(text.length());
    }

    static LeftTurns city(String text) {
        LeftTurns x = new LeftTurns();
        int lines = read(x, text);
        if (lines < 0) {
            throw new IllegalArgumentException("a test's text has a fault: " + lines + " at " + x.fault(1) + " in " + text);
        }
        return x;
    }

    /** Lays a tray of 64-bit numbers. */
    static void tray(LeftTurns x, int tray, long... values) {
        x.numbers(tray, 3, values.length);
        for (int i = 0; i < values.length; i++) {
            x.write(tray, i, values[i]);
        }
    }

    /** A week by single calls, the draws worked out in longs: how many could be. */
    static int weekByCalls(LeftTurns x, int seed, int times) {
        long state = seed;
        int could = 0;
        for (int i = 0; i < times; i++) {
            state = drawn(state);
            long kind = (state >> 16) % 4;
            if (kind == 3) {
                could += x.hours(1) > 0 ? 1 : 0;
                continue;
            }
            state = drawn(state);
            int p = (int) ((state >> 16) % x.count(2));
            if (kind == 2) {
                could += x.buy(p, 1) >= 0 ? 1 : 0;
                continue;
            }
            state = drawn(state);
            could += x.go(p, (int) ((state >> 16) % 4)) >= 0 ? 1 : 0;
        }
        return could;
    }

    /** The least seed whose first draw modulo 4 is this: 0 and 1 someone goes, 2 buys, 3 an hour. */
    static int seedOf(int kind) {
        int seed = 0;
        while ((drawn(seed) >> 16) % 4 != kind) {
            seed++;
        }
        return seed;
    }

    private static long drawn(long state) {
        return state * 1103515245L + 12345 & 0xffffffffL;
    }
}
