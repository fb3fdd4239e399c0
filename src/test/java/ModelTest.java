import java.util.Random;

/** Random runs of calls, each answer compared with the model's. With arguments: the first run's number, how many runs. */
public final class ModelTest {
    private static final Check CHECK = new Check("ModelTest");
    private static final String[] HEADS = {"north", "east", "south", "west"};

    private final Random random;
    private final LeftTurns x = new LeftTurns();
    private final Model model = new Model();
    private final String name;

    private ModelTest(int seed) {
        random = new Random(seed);
        name = "run " + seed + ": ";
    }

    public static void main(String[] args) {
        int from = args.length > 0 ? Integer.parseInt(args[0]) : 0;
        int runs = args.length > 1 ? Integer.parseInt(args[1]) : 60;
        for (int i = from; i < from + runs; i++) {
            new ModelTest(i).run();
        }
        CHECK.end();
    }

    private void run() {
        int calls = 0;
        while (calls < 470) {
            if (random.nextInt(60) == 0 || calls == 0) {
                calls += tell(random.nextInt(4) == 0);
            } else {
                call();
                calls++;
            }
        }
    }

    private void due(String call, long got, long want) {
        CHECK.due(name + call, got, want);
    }

    // ---- texts

    private int tell(boolean spoilt) {
        StringBuilder text = new StringBuilder(text());
        for (int i = random.nextInt(3); spoilt && i >= 0 && text.length() > 0; i--) {
            int at = random.nextInt(text.length());
            switch (random.nextInt(3)) {
                case 0 -> text.deleteCharAt(at);
                case 1 -> text.setCharAt(at, odd());
                default -> text.insert(at, odd());
            }
        }
        int calls = 0;
        for (int i = 0; i < text.length(); i += 20) {
            int[] five = new int[5];
            for (int j = 0; j < 20; j++) {
                five[j / 4] = five[j / 4] << 8 | (i + j < text.length() ? text.charAt(i + j) : '#');
            }
            due("feed", x.feed(five[0], five[1], five[2], five[3], five[4]),
                model.feed(five[0], five[1], five[2], five[3], five[4]));
            calls++;
        }
        int n = Math.min(text.length(), x.count(7));
        due("city(" + n + ") of " + text, x.city(n), model.city(n));
        due("fault(0) of " + text, x.fault(0), model.fault(0));
        due("fault(1) of " + text, x.fault(1), model.fault(1));
        return calls + 4;
    }

    private char odd() {
        String signs = "0123456789;:+-*()[]=<>  \n\nabxynot/A";
        return random.nextInt(30) == 0 ? (char) random.nextInt(256) : signs.charAt(random.nextInt(signs.length()));
    }

    private String text() {
        StringBuilder text = new StringBuilder();
        if (random.nextBoolean()) {
            text.append("price : ").append(sum(3)).append(";\n");
        }
        int most = random.nextInt(3) == 0 ? 5 : 3;
        int wide = 2 + random.nextInt(most - 1);
        int high = 2 + random.nextInt(most - 1);
        text.append("city ").append(wide).append(' ').append(high).append("; ");
        int lines = random.nextInt(14);
        int people = random.nextInt(20) == 0 ? 6 : 1 + random.nextInt(5);
        int kinds = random.nextBoolean() ? 5 : 12;
        for (int i = 0; i < lines; i++) {
            int px = random.nextInt(wide);
            int py = random.nextInt(high);
            switch (random.nextInt(kinds)) {
                case 3, 4 -> {
                    if (people > 1) {
                        person(text, px, py);
                        people--;
                    }
                }
                case 0 -> text.append("free ").append(px).append(' ').append(py).append(";");
                default -> text.append("wall ").append(px).append(' ').append(py).append(' ').append(random.nextInt(4)).append("; ");
            }
        }
        person(text, random.nextInt(wide), random.nextInt(high));
        for (int i = random.nextInt(3); i > 0; i--) {
            text.append("may: ").append(truth(3)).append("; ");
        }
        if (random.nextInt(4) == 0) {
            text.append("price: ").append(sum(2)).append("; ");
        }
        if (random.nextInt(3) == 0) {
            text.append("hour ").append(random.nextInt(1000)).append(";");
        }
        return text.length() > 900 ? "city 3 3; person 0 0 north lefts 2;" : text.toString();
    }

    private void person(StringBuilder text, int px, int py) {
        text.append("person ").append(px).append(' ').append(py).append(' ').append(HEADS[random.nextInt(4)]);
        if (random.nextBoolean()) {
            text.append(" lefts ").append(random.nextInt(random.nextInt(4) == 0 ? 100 : 5));
        }
        if (random.nextBoolean()) {
            text.append(" coins ").append(random.nextInt(random.nextInt(2) == 0 ? 1000 : 20));
        }
        text.append(";");
    }

    private String sum(int deep) {
        String[] names = {"x", "y", "hour", "day", "sold", "head"};
        switch (random.nextInt(deep > 0 ? 7 : 3)) {
            case 0: return Integer.toString(random.nextInt(random.nextInt(3) == 0 ? 1000 : 9));
            case 1:
            case 2: return names[random.nextInt(6)];
            case 3: return sum(deep - 1) + "+" + sum(deep - 1);
            case 4: return sum(deep - 1) + " - " + sum(deep - 1);
            case 5: return sum(deep - 1) + "*" + sum(deep - 1);
            default: return "(" + sum(deep - 1) + ")";
        }
    }

    private String truth(int deep) {
        switch (random.nextInt(deep > 0 ? 7 : 3)) {
            case 0:
            case 1:
            case 2: return sum(1) + " " + "=<>".charAt(random.nextInt(3)) + " " + sum(1);
            case 3: return truth(deep - 1) + " and " + truth(deep - 1);
            case 4: return truth(deep - 1) + " or " + truth(deep - 1);
            case 5: return "not " + truth(deep - 1);
            default: return "[" + truth(deep - 1) + "]";
        }
    }

    // ---- numbers that mostly can be

    private int among(int n) {
        if (random.nextInt(25) == 0) {
            int[] far = {-1, n, n + 1, Integer.MAX_VALUE, Integer.MIN_VALUE};
            return far[random.nextInt(far.length)];
        }
        return n > 0 ? random.nextInt(n) : 0;
    }

    private int within(int low, int high) {
        return low + among(high - low + 1);
    }

    private int p() {
        return among(x.count(2));
    }

    private int c() {
        return among(x.count(0) * x.count(1));
    }

    private int few() {
        return random.nextInt(3) == 0 ? among(121) : random.nextInt(4);
    }

    // ---- calls

    private void call() {
        int kind = random.nextInt(100);
        if (kind < 40) {
            deed();
        } else if (kind < 55) {
            ask();
        } else if (kind < 70) {
            askWays();
        } else if (kind < 80) {
            askMore();
        } else {
            trays();
        }
    }

    private void deed() {
        boolean asking = random.nextInt(3) == 0;
        if (asking) {
            askSomeWay();
        }
        int p = p();
        switch (random.nextInt(13)) {
            case 0, 1, 2, 3 -> {
                int turn = among(4);
                due("go(" + p + ", " + turn + ")", x.go(p, turn), model.go(p, turn));
            }
            case 4 -> {
                int n = random.nextBoolean() ? 1 : within(1, 20);
                due("buy(" + p + ", " + n + ")", x.buy(p, n), model.buy(p, n));
            }
            case 5 -> due("sell(" + p + ")", x.sell(p), model.sell(p));
            case 6 -> {
                int q = p();
                int n = random.nextBoolean() ? 1 : within(1, 99);
                due("hand(" + p + ", " + q + ", " + n + ")", x.hand(p, q, n), model.hand(p, q, n));
            }
            case 7 -> {
                int c = c();
                int n = random.nextBoolean() ? 1 + random.nextInt(9) : within(1, 99);
                due("fog(" + c + ", " + n + ")", x.fog(c, n), model.fog(c, n));
            }
            case 8 -> {
                int n = within(1, 99);
                due("hours(" + n + ")", x.hours(n), model.hours(n));
            }
            case 9 -> {
                int n = random.nextBoolean() ? 1 : within(1, 10);
                due("undo(" + n + ")", x.undo(n), model.undo(n));
            }
            case 10 -> {
                int seed = random.nextInt();
                int times = within(1, 60);
                due("week(" + seed + ", " + times + ")", x.week(seed, times), model.week(seed, times));
            }
            default -> {
                int tray = among(4);
                for (int what = 0; what < 4; what++) {
                    due("judge(" + tray + ", " + what + ")", x.judge(tray, what), model.judge(tray, what));
                }
                due("walk(" + tray + ")", x.walk(tray), model.walk(tray));
            }
        }
        if (asking) {
            askSomeWay();
        }
        for (int what = 0; what < 10; what++) {
            due("count(" + what + ")", x.count(what), model.count(what));
        }
        for (int what = 0; what < 5; what++) {
            due("person(" + p + ", " + what + ")", x.person(p, what), model.person(p, what));
        }
    }

    private void ask() {
        int p = p();
        int c = c();
        int d = among(4);
        switch (random.nextInt(8)) {
            case 0 -> {
                int what = among(5);
                due("person", x.person(p, what), model.person(p, what));
            }
            case 1 -> due("street(" + c + ", " + d + ")", x.street(c, d), model.street(c, d));
            case 2 -> {
                int what = among(5);
                due("crossing(" + c + ", " + what + ")", x.crossing(c, what), model.crossing(c, what));
            }
            case 3 -> {
                int n = among(1000);
                due("price(" + c + ", " + d + ", " + n + ")", x.price(c, d, n), model.price(c, d, n));
            }
            case 4 -> due("why(" + p + ", " + d + ")", x.why(p, d), model.why(p, d));
            case 5 -> {
                int what = among(3);
                due("dealing(" + c + ", " + d + ", " + what + ")", x.dealing(c, d, what), model.dealing(c, d, what));
            }
            case 6 -> due("cheap()", x.cheap(), model.cheap());
            default -> due("affords(" + p + ")", x.affords(p), model.affords(p));
        }
    }

    private void askWays() {
        int p = p();
        int c = c();
        int k = few();
        int n = random.nextBoolean() ? random.nextInt(8) : among(61);
        String told = "(" + p + ", " + c + ", ";
        switch (random.nextInt(9)) {
            case 0 -> due("way" + told + k + ")", x.way(p, c, k), model.way(p, c, k));
            case 1, 2 -> {
                int i = random.nextInt(10) == 0 ? -1 : random.nextInt(9);
                due("turn" + told + k + ", " + i + ")", x.turn(p, c, k, i), model.turn(p, c, k, i));
                if (model.way(p, c, k) >= 0) {
                    wholeWay(p, c, k);
                }
            }
            case 3 -> due("fewest" + told + n + ")", x.fewest(p, c, n), model.fewest(p, c, n));
            case 4 -> due("cheapest" + told + n + ")", x.cheapest(p, c, n), model.cheapest(p, c, n));
            case 5 -> {
                int streets = among(21);
                int lefts = random.nextBoolean() ? random.nextInt(4) : among(41);
                due("ways" + told + streets + ", " + lefts + ")", x.ways(p, c, streets, lefts), model.ways(p, c, streets, lefts));
            }
            case 6 -> due("reach(" + p + ", " + k + ")", x.reach(p, k), model.reach(p, k));
            case 7 -> {
                if (random.nextInt(4) == 0) {
                    due("enough(" + p + ")", x.enough(p), model.enough(p));
                }
            }
            default -> due("byRights(" + c + ", " + k + ")", x.byRights(c, k), model.byRights(c, k));
        }
    }

    private void wholeWay(int p, int c, int k) {
        String turns = model.path(p, c, k);
        for (int i = 0; i < turns.length(); i++) {
            due("turn(" + p + ", " + c + ", " + k + ", " + i + ") of " + turns, x.turn(p, c, k, i), turns.charAt(i) - '0');
        }
    }

    /** The same question ahead of a deed and behind it: nothing that was worked out may outlive the deed. */
    private void askSomeWay() {
        int p = random.nextInt(Math.max(1, x.count(2)));
        int c = c();
        int n = random.nextInt(7);
        String told = "(" + p + ", " + c + ", " + n + ")";
        due("fewest" + told, x.fewest(p, c, n), model.fewest(p, c, n));
        due("cheapest" + told, x.cheapest(p, c, n), model.cheapest(p, c, n));
        due("ways" + told, x.ways(p, c, n, 4), model.ways(p, c, n, 4));
        due("way" + told, x.way(p, c, 2), model.way(p, c, 2));
    }

    private void askMore() {
        int p = p();
        int c = c();
        switch (random.nextInt(6)) {
            case 0 -> {
                int tray = among(4);
                int what = random.nextInt(10) == 0 ? random.nextInt(20) - 2 : random.nextInt(2);
                if (random.nextInt(4) > 0) {
                    lay(tray, 1 + random.nextInt(4));
                }
                if (x.count(0) * x.count(1) < 10 || random.nextInt(4) == 0) {
                    due("round(" + p + ", " + tray + ", " + what + ")", x.round(p, tray, what), model.round(p, tray, what));
                    for (int k = 10; k < 15; k++) {
                        due("round(" + p + ", " + tray + ", " + k + ")", x.round(p, tray, k), model.round(p, tray, k));
                    }
                }
            }
            case 1 -> {
                int n = random.nextBoolean() ? random.nextInt(6) : among(21);
                int what = among(2);
                if (x.count(0) * x.count(1) < 17) {
                    due("makeFree(" + p + ", " + c + ", " + n + ", " + what + ")", x.makeFree(p, c, n, what),
                        model.makeFree(p, c, n, what));
                }
            }
            case 2 -> {
                int n = random.nextBoolean() ? random.nextInt(6) : among(31);
                due("bestCorner(" + p + ", " + c + ", " + n + ")", x.bestCorner(p, c, n), model.bestCorner(p, c, n));
            }
            case 3 -> {
                int tray = among(4);
                int n = random.nextBoolean() ? random.nextInt(6) : among(31);
                if (random.nextInt(4) > 0) {
                    lay(tray, random.nextInt(4));
                }
                due("found(" + p + ", " + tray + ", " + n + ")", x.found(p, tray, n), model.found(p, tray, n));
            }
            case 4 -> {
                int watch = c();
                int h = among(4);
                int w = among(4);
                due("chase(" + c + ", " + h + ", " + watch + ", " + w + ")", x.chase(c, h, watch, w), model.chase(c, h, watch, w));
            }
            default -> {
                int h = among(4);
                int w = among(4);
                int n = among(31);
                due("posts(" + c + ", " + h + ", " + w + ", " + n + ")", x.posts(c, h, w, n), model.posts(c, h, w, n));
            }
        }
    }

    private void lay(int tray, int n) {
        int sort = random.nextInt(4);
        due("numbers", x.numbers(tray, sort, n), model.numbers(tray, sort, n));
        for (int i = 0; i < n; i++) {
            long v = c();
            due("write", x.write(tray, i, v), model.write(tray, i, v));
        }
    }

    private void trays() {
        int tray = among(4);
        switch (random.nextInt(8)) {
            case 0 -> {
                int sort = among(4);
                int n = random.nextBoolean() ? random.nextInt(7) : among(41);
                due("numbers(" + tray + ", " + sort + ", " + n + ")", x.numbers(tray, sort, n), model.numbers(tray, sort, n));
            }
            case 1, 2, 3, 4 -> {
                int i = random.nextBoolean() ? random.nextInt(5) : among(40);
                long v = random.nextInt(8) == 0 ? random.nextLong() >> random.nextInt(64) : random.nextInt(4);
                due("write(" + tray + ", " + i + ", " + v + ")", x.write(tray, i, v), model.write(tray, i, v));
            }
            case 5, 6 -> {
                int p = p();
                int c = c();
                int k = few();
                due("lists(" + tray + ", " + p + ", " + c + ", " + k + ")", x.lists(tray, p, c, k), model.lists(tray, p, c, k));
            }
            default -> {
                int i = among(2);
                if (random.nextBoolean()) {
                    due("image(" + i + ")", x.image(i), model.image(i));
                } else {
                    due("restore(" + i + ")", x.restore(i), model.restore(i));
                }
            }
        }
    }
}
