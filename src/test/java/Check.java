/** What the tests share: answers that are due, and cities told as texts. */
final class Check {
    private final String name;
    private int asked;
    private int wrong;

    Check(String name) {
        this.name = name;
    }

    void due(String call, long got, long want) {
        asked++;
        if (got != want) {
            wrong++;
            System.out.println(name + ": " + call + " answered " + got + ", due is " + want);
        }
    }

    void end() {
        System.out.println(name + ": " + asked + " asked, " + wrong + " wrong");
        if (wrong > 0) {
            System.exit(1);
        }
    }

    /** Feeds a text, with blanks behind it up to a multiple of 20. */
    static void feed(LeftTurns x, String text) {
        for (int i = 0; i < text.length(); i += 20) {
            x.feed(four(text, i), four(text, i + 4), four(text, i + 8), four(text, i + 12), four(text, i + 16));
        }
    }

    /** A model of the city of a text. */
    static Model model(String text) {
        Model model = new Model();
        for (int i = 0; i < text.length(); i += 20) {
            model.feed(four(text, i), four(text, i + 4), four(text, i + 8), four(text, i + 12), four(text, i + 16));
        }
        model.city(text.length());
        return model;
    }

    private static int four(String text, int from) {
        int value = 0;
        for (int i = from; i < from + 4; i++) {
            value = value << 8 | (i < text.length() ? text.charAt(i) & 255 : ' ');
        }
        return value;
    }

    /** Feeds a text to an empty tape and reads it. */
    static int read(LeftTurns x, String text) {
        feed(x, text);
        return x.city(text.length());
    }

    static LeftTurns city(String text) {
        LeftTurns x = new LeftTurns();
        int lines = read(x, text);
        if (lines < 0) {
            throw new IllegalArgumentException("a test's text has a fault: " + lines + " at " + x.fault(1) + " in " + text);
        }
        return x;
    }

    /** Lays a tray of 64-bit numbers. */
    static void tray(LeftTurns x, int tray, long... values) {
        x.numbers(tray, 3, values.length);
        for (int i = 0; i < values.length; i++) {
            x.write(tray, i, values[i]);
        }
    }
}
