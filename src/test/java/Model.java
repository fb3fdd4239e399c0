import java.util.ArrayDeque;
import java.util.ArrayList;
import java.util.Arrays;
import java.util.HashMap;
import java.util.HashSet;
import java.util.List;
import java.util.Map;
import java.util.Set;
import java.util.TreeMap;

/** The document a second time, by other means and without regard to speed, to compare the class with. */
final class Model {
    interface Sum {
        long of(long x, long y, long hours, long sold, long head);
    }

    static final class Fault extends RuntimeException {
        private static final long serialVersionUID = 1L;
        final int kind;
        final int place;

        Fault(int kind, int place) {
            this.kind = kind;
            this.place = place;
        }
    }

    static final class Person {
        int x;
        int y;
        int head;
        int lefts;
        int coins;
        int used;

        Person copy() {
            Person q = new Person();
            q.x = x;
            q.y = y;
            q.head = head;
            q.lefts = lefts;
            q.coins = coins;
            q.used = used;
            return q;
        }
    }

    /** All that an image holds; what undoing brings back is a part of it. */
    static final class World {
        int wide;
        int high;
        int lines;
        int hours;
        Set<String> walls = new HashSet<>();
        Set<Integer> free = new HashSet<>();
        List<Person> people = new ArrayList<>();
        Sum price;
        Sum may;
        Map<Integer, Integer> sold = new HashMap<>();
        Map<Integer, Integer> fog = new HashMap<>();

        World copy() {
            World w = new World();
            w.wide = wide;
            w.high = high;
            w.lines = lines;
            w.hours = hours;
            w.walls.addAll(walls);
            w.free.addAll(free);
            for (Person p : people) {
                w.people.add(p.copy());
            }
            w.price = price;
            w.may = may;
            w.sold.putAll(sold);
            w.fog.putAll(fog);
            return w;
        }

        int size() {
            return wide * high;
        }

        int to(int c, int d) {
            int x = c % wide + (d == 1 ? 1 : d == 3 ? -1 : 0);
            int y = c / wide + (d == 2 ? 1 : d == 0 ? -1 : 0);
            if (x < 0 || y < 0 || x >= wide || y >= high) {
                return -1;
            }
            int other = y * wide + x;
            return walls.contains(c + ">" + other) || walls.contains(other + ">" + c) ? -1 : other;
        }

        boolean isFree(int c, int time) {
            return free.contains(c) || fog.getOrDefault(c, 0) > time;
        }

        int price(int c, int time, int sold, int head) {
            if (price == null) {
                return 1;
            }
            return (int) Math.max(0, price.of(c % wide, c / wide, time, sold, head));
        }

        int price(int c, int time, int head) {
            return price(c, time, sold.getOrDefault(c, 0), head);
        }

        boolean may(int c, int time, int head) {
            return may == null || may.of(c % wide, c / wide, time, sold.getOrDefault(c, 0), head) != 0;
        }

        int freeNow() {
            int n = 0;
            for (int c = 0; c < size(); c++) {
                n += isFree(c, hours) ? 1 : 0;
            }
            return n;
        }

        int at(int p) {
            return people.get(p).y * wide + people.get(p).x;
        }

        int priceFor(int p) {
            return price(at(p), hours, people.get(p).head);
        }
    }

    private World world = new World();
    private final ArrayDeque<World> past = new ArrayDeque<>();
    private final World[] images = new World[2];
    private final long[][] trays = new long[4][];
    private final int[] sorts = new int[4];
    private final StringBuilder tape = new StringBuilder();
    private int faultKind;
    private int faultPlace = -1;

    // ---- the text

    private String text;
    private int cursor;
    private int tokenAt;
    private String token;
    private World reading;

    private void next() {
        while (cursor < text.length() && (text.charAt(cursor) == ' ' || text.charAt(cursor) == 10)) {
            cursor++;
        }
        tokenAt = cursor;
        if (cursor == text.length()) {
            token = "";
            return;
        }
        String rest = text.substring(cursor);
        int n = 0;
        if (rest.matches("(?s)[a-z].*")) {
            n = rest.replaceFirst("(?s)^([a-z]+).*", "$1").length();
        } else if (rest.matches("(?s)[0-9].*")) {
            n = rest.replaceFirst("(?s)^([0-9]+).*", "$1").length();
            if (n > 3) {
                throw new Fault(1, cursor);
            }
        } else if (rest.matches("(?s)[-;:+*()\\[\\]=<>].*")) {
            n = 1;
        } else {
            throw new Fault(1, cursor);
        }
        token = rest.substring(0, n);
        cursor += n;
    }

    private void misplaced() {
        throw new Fault(2, tokenAt);
    }

    private void expect(String what) {
        if (!token.equals(what)) {
            misplaced();
        }
        next();
    }

    private boolean accept(String what) {
        if (token.equals(what)) {
            next();
            return true;
        }
        return false;
    }

    private int number(int low, int high) {
        if (!token.matches("[0-9]+")) {
            misplaced();
        }
        int n = Integer.parseInt(token);
        if (n < low || n > high) {
            throw new Fault(3, tokenAt);
        }
        next();
        return n;
    }

    private void readLine() {
        String first = token;
        if (List.of("wall", "free", "person").contains(first) && reading.wide == 0) {
            misplaced();
        }
        switch (first) {
            case "city" -> {
                if (reading.wide != 0) {
                    misplaced();
                }
                next();
                int wide = number(2, 5);
                reading.high = number(2, 5);
                reading.wide = wide;
            }
            case "wall" -> {
                next();
                int x = number(0, reading.wide - 1);
                int y = number(0, reading.high - 1);
                int c = y * reading.wide + x;
                int d = number(0, 3);
                int other = reading.to(c, d);
                if (other >= 0) {
                    reading.walls.add(c + ">" + other);
                }
            }
            case "free" -> {
                next();
                int x = number(0, reading.wide - 1);
                reading.free.add(number(0, reading.high - 1) * reading.wide + x);
            }
            case "person" -> readPerson();
            case "price" -> {
                next();
                expect(":");
                reading.price = sum(0);
            }
            case "may" -> {
                next();
                expect(":");
                reading.may = truth(0);
            }
            case "hour" -> {
                next();
                reading.hours = number(0, 999);
            }
            default -> misplaced();
        }
        expect(";");
        reading.lines++;
    }

    private void readPerson() {
        if (reading.people.size() == 5) {
            throw new Fault(4, tokenAt);
        }
        next();
        Person p = new Person();
        p.x = number(0, reading.wide - 1);
        p.y = number(0, reading.high - 1);
        p.head = List.of("north", "east", "south", "west").indexOf(token);
        if (p.head < 0) {
            misplaced();
        }
        next();
        if (accept("lefts")) {
            p.lefts = number(0, 99);
        }
        if (accept("coins")) {
            p.coins = number(0, 999);
        }
        reading.people.add(p);
    }

    private void deeper(int open) {
        if (open == 6) {
            throw new Fault(4, tokenAt);
        }
        next();
    }

    private Sum truth(int open) {
        Sum a = both(open);
        while (accept("or")) {
            Sum l = a;
            Sum r = both(open);
            a = (x, y, t, s, h) -> l.of(x, y, t, s, h) != 0 || r.of(x, y, t, s, h) != 0 ? 1 : 0;
        }
        return a;
    }

    private Sum both(int open) {
        Sum a = unit(open);
        while (accept("and")) {
            Sum l = a;
            Sum r = unit(open);
            a = (x, y, t, s, h) -> l.of(x, y, t, s, h) != 0 && r.of(x, y, t, s, h) != 0 ? 1 : 0;
        }
        return a;
    }

    private Sum unit(int open) {
        if (token.equals("not")) {
            deeper(open);
            Sum a = unit(open + 1);
            return (x, y, t, s, h) -> a.of(x, y, t, s, h) == 0 ? 1 : 0;
        }
        if (token.equals("[")) {
            deeper(open);
            Sum a = truth(open + 1);
            expect("]");
            return a;
        }
        Sum l = sum(open);
        String sign = token;
        if (!List.of("=", "<", ">").contains(sign)) {
            misplaced();
        }
        next();
        Sum r = sum(open);
        return (x, y, t, s, h) -> {
            int order = Long.compare(l.of(x, y, t, s, h), r.of(x, y, t, s, h));
            return (sign.equals("=") ? order == 0 : sign.equals("<") ? order < 0 : order > 0) ? 1 : 0;
        };
    }

    private static long kept(long v) {
        return v > 1000000 ? 1000000 : v < -1000000 ? -1000000 : v;
    }

    private Sum sum(int open) {
        Sum a = term(open);
        while (token.equals("+") || token.equals("-")) {
            long sign = token.equals("+") ? 1 : -1;
            next();
            Sum l = a;
            Sum r = term(open);
            a = (x, y, t, s, h) -> kept(l.of(x, y, t, s, h) + sign * r.of(x, y, t, s, h));
        }
        return a;
    }

    private Sum term(int open) {
        Sum a = atom(open);
        while (accept("*")) {
            Sum l = a;
            Sum r = atom(open);
            a = (x, y, t, s, h) -> kept(l.of(x, y, t, s, h) * r.of(x, y, t, s, h));
        }
        return a;
    }

    private Sum atom(int open) {
        if (token.equals("(")) {
            deeper(open);
            Sum a = sum(open + 1);
            expect(")");
            return a;
        }
        if (token.matches("[0-9]+")) {
            long n = Integer.parseInt(token);
            next();
            return (x, y, t, s, h) -> n;
        }
        String name = token;
        Sum a = switch (name) {
            case "x" -> (x, y, t, s, h) -> x;
            case "y" -> (x, y, t, s, h) -> y;
            case "hour" -> (x, y, t, s, h) -> t % 24;
            case "day" -> (x, y, t, s, h) -> t / 24;
            case "sold" -> (x, y, t, s, h) -> s;
            case "head" -> (x, y, t, s, h) -> h;
            default -> null;
        };
        if (a == null) {
            misplaced();
        }
        next();
        return a;
    }

    // ---- the city

    int feed(int a, int b, int c, int d, int e) {
        if (tape.length() > 880) {
            return -5;
        }
        for (int v : new int[] {a, b, c, d, e}) {
            tape.append((char) (v >>> 24)).append((char) (v >>> 16 & 255)).append((char) (v >>> 8 & 255)).append((char) (v & 255));
        }
        return tape.length();
    }

    int city(int n) {
        if (n < 0 || n > tape.length()) {
            return -3;
        }
        text = tape.substring(0, n);
        tape.setLength(0);
        cursor = 0;
        reading = new World();
        try {
            next();
            while (!token.isEmpty()) {
                readLine();
            }
        } catch (Fault f) {
            faultKind = f.kind;
            faultPlace = f.place;
            return -30 - f.kind;
        }
        faultKind = 0;
        faultPlace = -1;
        world = reading;
        past.clear();
        return world.lines;
    }

    int fault(int what) {
        return what == 0 ? faultKind : what == 1 ? faultPlace : -1;
    }

    private boolean noPerson(int p) {
        return p < 0 || p >= world.people.size();
    }

    private boolean noCrossing(int c) {
        return c < 0 || c >= world.size();
    }

    private static boolean noDirection(int d) {
        return d < 0 || d > 3;
    }

    private static boolean out(int v, int low, int high) {
        return v < low || v > high;
    }

    int person(int p, int what) {
        if (noPerson(p) || out(what, 0, 4)) {
            return -8;
        }
        Person q = world.people.get(p);
        return new int[] {world.at(p), q.head, q.lefts, q.coins, q.used}[what];
    }

    int street(int c, int d) {
        return noCrossing(c) || noDirection(d) ? -2 : world.to(c, d);
    }

    int crossing(int c, int what) {
        if (noCrossing(c) || out(what, 0, 4)) {
            return -2;
        }
        int streets = 0;
        for (int d = 0; d < 4; d++) {
            streets += world.to(c, d) >= 0 ? 1 : 0;
        }
        return new int[] {world.price(c, world.hours, 0), world.sold.getOrDefault(c, 0), world.isFree(c, world.hours) ? 1 : 0,
            Math.max(0, world.fog.getOrDefault(c, 0) - world.hours), streets}[what];
    }

    int price(int c, int d, int n) {
        if (noCrossing(c) || noDirection(d)) {
            return -2;
        }
        return out(n, 0, 999) ? -3 : world.price(c, world.hours + n, d);
    }

    private static int turned(int head, int turn) {
        return switch (turn) {
            case 0 -> head;
            case 1 -> (head + 1) % 4;
            case 2 -> (head + 3) % 4;
            default -> (head + 2) % 4;
        };
    }

    /** Lefts that a turn takes then, -2 where there is no street, -3 where it may not be. */
    private int takes(int c, int head, int turn, int time, Set<Integer> more) {
        int d = turned(head, turn);
        if (world.to(c, d) < 0) {
            return -2;
        }
        if (turn < 2) {
            return 0;
        }
        if (!world.may(c, time, d)) {
            return -3;
        }
        return world.isFree(c, time) || more.contains(c) ? 0 : turn == 2 ? 1 : 2;
    }

    int why(int p, int turn) {
        if (noPerson(p) || out(turn, 0, 3)) {
            return 1;
        }
        Person q = world.people.get(p);
        int takes = takes(world.at(p), q.head, turn, world.hours, Set.of());
        return takes < 0 ? -takes : takes > q.lefts ? 4 : 0;
    }

    // ---- deeds

    private void remember(World old) {
        past.addLast(old);
        if (past.size() > 10) {
            past.removeFirst();
        }
    }

    private int step(int p, int turn) {
        Person q = world.people.get(p);
        int takes = takes(world.at(p), q.head, turn, world.hours, Set.of());
        q.lefts -= takes;
        q.used = Math.min(999, q.used + takes);
        int d = turned(q.head, turn);
        int c = world.to(world.at(p), d);
        q.head = d;
        q.x = c % world.wide;
        q.y = c / world.wide;
        world.hours++;
        return takes;
    }

    int go(int p, int turn) {
        int why = why(p, turn);
        if (why > 0) {
            return -10 - why;
        }
        remember(world.copy());
        step(p, turn);
        return world.at(p);
    }

    private int[] walkOn(int tray) {
        long[] values = trays[tray];
        if (values.length == 0 || values[0] < 0 || values[0] >= world.people.size()) {
            return new int[] {0, 1, -1, 0, 0};
        }
        int p = (int) values[0];
        int lefts = 0;
        for (int i = 1; i < values.length; i++) {
            int why = values[i] < 0 || values[i] > 3 ? 1 : why(p, (int) values[i]);
            if (why != 0) {
                return new int[] {i, why, world.at(p), lefts, i - 1};
            }
            lefts += step(p, (int) values[i]);
        }
        return new int[] {-1, 0, world.at(p), lefts, values.length - 1};
    }

    int judge(int tray, int what) {
        if (out(tray, 0, 3) || out(what, 0, 3)) {
            return -2;
        }
        if (trays[tray] == null) {
            return -6;
        }
        World old = world.copy();
        int[] told = walkOn(tray);
        world = old;
        return told[what];
    }

    int walk(int tray) {
        if (out(tray, 0, 3)) {
            return -2;
        }
        if (trays[tray] == null) {
            return -6;
        }
        World old = world.copy();
        int gone = walkOn(tray)[4];
        if (gone > 0) {
            remember(old);
        }
        return gone;
    }

    int buy(int p, int n) {
        if (noPerson(p)) {
            return -2;
        }
        if (out(n, 1, 20)) {
            return -3;
        }
        World old = world.copy();
        Person q = world.people.get(p);
        int paid = 0;
        for (int i = 0; i < n; i++) {
            paid += world.priceFor(p);
            world.sold.merge(world.at(p), 1, Integer::sum);
        }
        int refused = paid > q.coins ? -5 : q.lefts + n > 99 ? -4 : 0;
        if (refused < 0) {
            world = old;
            return refused;
        }
        q.coins -= paid;
        q.lefts += n;
        remember(old);
        return paid;
    }

    int sell(int p) {
        if (noPerson(p)) {
            return -2;
        }
        Person q = world.people.get(p);
        if (q.used == 0) {
            return -5;
        }
        remember(world.copy());
        int sum = 0;
        for (int i = 0; i < q.used; i++) {
            sum += world.priceFor(p) / 3;
        }
        q.used = 0;
        q.coins = Math.min(9999, q.coins + sum);
        return sum;
    }

    int hand(int p, int q, int n) {
        if (noPerson(p) || noPerson(q) || p == q) {
            return -2;
        }
        if (out(n, 1, 99)) {
            return -3;
        }
        if (world.at(p) != world.at(q) || world.people.get(p).lefts < n) {
            return -5;
        }
        if (world.people.get(q).lefts + n > 99) {
            return -4;
        }
        remember(world.copy());
        world.people.get(p).lefts -= n;
        world.people.get(q).lefts += n;
        return world.people.get(q).lefts;
    }

    int fog(int c, int n) {
        if (noCrossing(c)) {
            return -2;
        }
        if (out(n, 1, 99)) {
            return -3;
        }
        remember(world.copy());
        world.fog.put(c, world.hours + n);
        return world.freeNow();
    }

    int hours(int n) {
        if (out(n, 1, 99)) {
            return -3;
        }
        remember(world.copy());
        world.hours += n;
        return world.hours;
    }

    int undo(int n) {
        if (out(n, 1, 10) || n > past.size()) {
            return -3;
        }
        for (int i = 0; i < n; i++) {
            world = past.removeLast();
        }
        return past.size();
    }

    int week(int seed, int times) {
        if (out(times, 1, 60)) {
            return -3;
        }
        if (world.people.isEmpty()) {
            return -5;
        }
        World old = world.copy();
        long[] x = {seed & 0xffffffffL};
        int could = 0;
        for (int i = 0; i < times; i++) {
            int kind = (int) (draw(x) % 4);
            if (kind == 3) {
                world.hours++;
                could++;
                continue;
            }
            int p = (int) (draw(x) % world.people.size());
            if (kind == 2) {
                Person q = world.people.get(p);
                int cost = world.priceFor(p);
                if (q.lefts < 99 && q.coins >= cost) {
                    q.coins -= cost;
                    q.lefts++;
                    world.sold.merge(world.at(p), 1, Integer::sum);
                    could++;
                }
                continue;
            }
            int turn = (int) (draw(x) % 4);
            if (why(p, turn) == 0) {
                step(p, turn);
                could++;
            }
        }
        if (could > 0) {
            remember(old);
        }
        return could;
    }

    private static long draw(long[] x) {
        x[0] = x[0] * 1103515245L + 12345 & 0xffffffffL;
        return x[0] / 65536;
    }

    // ---- ways

    /** By streets gone, crossing and heading: of each number of lefts the first way by turns, where no better one has fewer. */
    private List<Map<Integer, TreeMap<Integer, String>>> spread(int c, int head, int since, int n, Set<Integer> more) {
        List<Map<Integer, TreeMap<Integer, String>>> layers = new ArrayList<>();
        Map<Integer, TreeMap<Integer, String>> layer = new HashMap<>();
        layer.computeIfAbsent(10 * c + head, s -> new TreeMap<>()).put(0, "");
        layers.add(layer);
        for (int i = 0; i < n; i++) {
            layer = following(layer, world.hours + since + i, more);
            layers.add(layer);
        }
        return layers;
    }

    private Map<Integer, TreeMap<Integer, String>> following(Map<Integer, TreeMap<Integer, String>> layer, int time,
            Set<Integer> more) {
        Map<Integer, TreeMap<Integer, String>> following = new HashMap<>();
        for (Map.Entry<Integer, TreeMap<Integer, String>> stand : layer.entrySet()) {
            int at = stand.getKey() / 10;
            int heads = stand.getKey() % 10;
            for (int turn = 0; turn < 4; turn++) {
                int takes = takes(at, heads, turn, time, more);
                if (takes < 0) {
                    continue;
                }
                int d = turned(heads, turn);
                TreeMap<Integer, String> there = following.computeIfAbsent(10 * world.to(at, d) + d, s -> new TreeMap<>());
                for (Map.Entry<Integer, String> w : stand.getValue().entrySet()) {
                    there.merge(w.getKey() + takes, w.getValue() + turn, (a, b) -> a.compareTo(b) <= 0 ? a : b);
                }
            }
        }
        for (TreeMap<Integer, String> there : following.values()) {
            String best = null;
            for (Integer lefts : new ArrayList<>(there.keySet())) {
                String w = there.get(lefts);
                if (best != null && best.compareTo(w) <= 0) {
                    there.remove(lefts);
                } else {
                    best = w;
                }
            }
        }
        return following;
    }

    private String first(Map<Integer, TreeMap<Integer, String>> layer, int c, int k) {
        String best = null;
        for (int h = 0; h < 4; h++) {
            for (Map.Entry<Integer, String> w : layer.getOrDefault(10 * c + h, new TreeMap<>()).entrySet()) {
                if (w.getKey() <= k && (best == null || w.getValue().compareTo(best) < 0)) {
                    best = w.getValue();
                }
            }
        }
        return best;
    }

    private static int least(List<Map<Integer, TreeMap<Integer, String>>> layers, int c) {
        int least = Integer.MAX_VALUE;
        for (Map<Integer, TreeMap<Integer, String>> layer : layers) {
            for (int h = 0; h < 4; h++) {
                if (layer.containsKey(10 * c + h)) {
                    least = Math.min(least, layer.get(10 * c + h).firstKey());
                }
            }
        }
        return least;
    }

    /** The turns of a way, null if there is none. */
    String path(int p, int c, int k) {
        Map<Integer, TreeMap<Integer, String>> layer = spread(world.at(p), world.people.get(p).head, 0, 0, Set.of()).get(0);
        for (int i = 0; i <= 60; i++) {
            String w = first(layer, c, k);
            if (w != null) {
                return w;
            }
            layer = following(layer, world.hours + i, Set.of());
        }
        return null;
    }

    int way(int p, int c, int k) {
        if (noPerson(p) || noCrossing(c)) {
            return -2;
        }
        if (out(k, 0, 120)) {
            return -3;
        }
        String w = path(p, c, k);
        return w == null ? -1 : w.length();
    }

    int turn(int p, int c, int k, int i) {
        if (noPerson(p) || noCrossing(c)) {
            return -2;
        }
        if (out(k, 0, 120) || i < 0) {
            return -3;
        }
        String w = path(p, c, k);
        return w == null || i >= w.length() ? -1 : w.charAt(i) - '0';
    }

    private int fewest(int p, int c, int n, Set<Integer> more) {
        int least = least(spread(world.at(p), world.people.get(p).head, 0, n, more), c);
        return least == Integer.MAX_VALUE ? -1 : least;
    }

    int fewest(int p, int c, int n) {
        if (noPerson(p) || noCrossing(c)) {
            return -2;
        }
        return out(n, 0, 60) ? -3 : fewest(p, c, n, Set.of());
    }

    int cheapest(int p, int c, int n) {
        if (noPerson(p) || noCrossing(c)) {
            return -2;
        }
        if (out(n, 0, 60)) {
            return -3;
        }
        Map<String, Integer> memo = new HashMap<>();
        int best = cheapest(world.at(p), world.people.get(p).head, world.hours, n, c, memo);
        return best == Integer.MAX_VALUE ? -1 : best;
    }

    private int cheapest(int c, int head, int time, int n, int goal, Map<String, Integer> memo) {
        if (c == goal) {
            return 0;
        }
        if (n == 0) {
            return Integer.MAX_VALUE;
        }
        String key = c + " " + head + " " + n;
        Integer known = memo.get(key);
        if (known != null) {
            return known;
        }
        int best = Integer.MAX_VALUE;
        for (int turn = 0; turn < 4; turn++) {
            int takes = takes(c, head, turn, time, Set.of());
            if (takes >= 0) {
                int d = turned(head, turn);
                int rest = cheapest(world.to(c, d), d, time + 1, n - 1, goal, memo);
                if (rest < Integer.MAX_VALUE) {
                    best = Math.min(best, rest + takes * world.price(c, time, d));
                }
            }
        }
        memo.put(key, best);
        return best;
    }

    long ways(int p, int c, int n, int k) {
        if (noPerson(p) || noCrossing(c)) {
            return -2;
        }
        if (out(n, 0, 20) || out(k, 0, 40)) {
            return -3;
        }
        return ways(world.at(p), world.people.get(p).head, world.hours, n, k, c, new HashMap<>());
    }

    private long ways(int c, int head, int time, int n, int k, int goal, Map<String, Long> memo) {
        if (n == 0) {
            return c == goal ? 1 : 0;
        }
        String key = c + " " + head + " " + n + " " + k;
        Long known = memo.get(key);
        if (known != null) {
            return known;
        }
        long sum = 0;
        for (int turn = 0; turn < 4; turn++) {
            int takes = takes(c, head, turn, time, Set.of());
            if (takes >= 0 && takes <= k) {
                int d = turned(head, turn);
                sum += ways(world.to(c, d), d, time + 1, n - 1, k - takes, goal, memo);
            }
        }
        memo.put(key, sum);
        return sum;
    }

    int reach(int p, int k) {
        if (noPerson(p)) {
            return -2;
        }
        if (out(k, 0, 120)) {
            return -3;
        }
        int bits = 0;
        for (int c = 0; c < world.size(); c++) {
            bits += path(p, c, k) != null ? 1 << c : 0;
        }
        return bits;
    }

    int enough(int p) {
        if (noPerson(p)) {
            return -2;
        }
        int all = reach(p, 120);
        int k = 0;
        while (reach(p, k) != all) {
            k++;
        }
        return k;
    }

    int byRights(int c, int d) {
        if (noCrossing(c) || noDirection(d)) {
            return -2;
        }
        int goal = world.to(c, (d + 3) % 4);
        if (goal < 0) {
            return -1;
        }
        Set<Integer> stands = Set.of(10 * c + d);
        for (int i = 0; i <= 60; i++) {
            Set<Integer> following = new HashSet<>();
            for (int s : stands) {
                if (s / 10 == goal) {
                    return i;
                }
                for (int h : new int[] {s % 10, (s % 10 + 1) % 4}) {
                    if (world.to(s / 10, h) >= 0) {
                        following.add(10 * world.to(s / 10, h) + h);
                    }
                }
            }
            stands = following;
        }
        return -1;
    }

    // ---- errands, corners

    private int[] best;
    private int[] bestOrder;

    int round(int p, int tray, int what) {
        if (noPerson(p) || out(tray, 0, 3) || what < 0 || what > 1 && what < 10) {
            return -2;
        }
        long[] stops = trays[tray];
        if (stops == null) {
            return -6;
        }
        if (stops.length < 1 || stops.length > 4) {
            return -4;
        }
        for (long stop : stops) {
            if (stop < 0 || stop >= world.size()) {
                return -3;
            }
        }
        best = null;
        orders(p, stops, new int[0]);
        if (best == null) {
            return -1;
        }
        if (what < 2) {
            return best[what];
        }
        return what - 10 < stops.length ? (int) stops[bestOrder[what - 10]] : -1;
    }

    private void orders(int p, long[] stops, int[] order) {
        if (order.length == stops.length) {
            int[] told = gone(p, stops, order);
            if (told != null && (best == null || told[0] < best[0] || told[0] == best[0] && told[1] < best[1])) {
                best = told;
                bestOrder = order;
            }
            return;
        }
        for (int i = 0; i < stops.length; i++) {
            boolean had = false;
            for (int j : order) {
                had |= j == i;
            }
            if (!had) {
                int[] longer = Arrays.copyOf(order, order.length + 1);
                longer[order.length] = i;
                orders(p, stops, longer);
            }
        }
    }

    private int[] gone(int p, long[] stops, int[] order) {
        int c = world.at(p);
        int head = world.people.get(p).head;
        int streets = 0;
        int lefts = 0;
        for (int i : order) {
            int goal = (int) stops[i];
            List<Map<Integer, TreeMap<Integer, String>>> layers = spread(c, head, streets, 60, Set.of());
            int least = least(layers, goal);
            if (least == Integer.MAX_VALUE) {
                return null;
            }
            String w = null;
            for (int j = 0; w == null; j++) {
                w = first(layers.get(j), goal, least);
            }
            for (int j = 0; j < w.length(); j++) {
                head = turned(head, w.charAt(j) - '0');
                c = world.to(c, head);
            }
            streets += w.length();
            lefts += least;
        }
        return new int[] {lefts, streets};
    }

    int makeFree(int p, int c, int n, int what) {
        if (noPerson(p) || noCrossing(c) || out(what, 0, 1)) {
            return -2;
        }
        if (out(n, 0, 20)) {
            return -3;
        }
        for (int many = 0; many <= 2; many++) {
            for (int set = 0; set < 1 << world.size(); set++) {
                if (Integer.bitCount(set) == many) {
                    Set<Integer> more = new HashSet<>();
                    for (int i = 0; i < world.size(); i++) {
                        if ((set >> i & 1) != 0) {
                            more.add(i);
                        }
                    }
                    if (comes(world.at(p), world.people.get(p).head, world.hours, n, c, more, new HashSet<>())) {
                        return what == 0 ? many : set;
                    }
                }
                if (many == 0) {
                    break;
                }
            }
        }
        return -1;
    }

    private boolean comes(int c, int head, int time, int n, int goal, Set<Integer> more, Set<Integer> vain) {
        if (c == goal) {
            return true;
        }
        int key = (c * 4 + head) * 100 + n;
        if (n == 0 || vain.contains(key)) {
            return false;
        }
        for (int turn = 0; turn < 4; turn++) {
            if (takes(c, head, turn, time, more) == 0) {
                int d = turned(head, turn);
                if (comes(world.to(c, d), d, time + 1, n - 1, goal, more, vain)) {
                    return true;
                }
            }
        }
        vain.add(key);
        return false;
    }

    int bestCorner(int p, int c, int n) {
        if (noPerson(p) || noCrossing(c)) {
            return -2;
        }
        if (out(n, 0, 30)) {
            return -3;
        }
        int least = fewest(p, c, n, Set.of());
        if (least < 0) {
            return -1;
        }
        int corner = -1;
        for (int i = 0; i < world.size(); i++) {
            int then = fewest(p, c, n, Set.of(i));
            if (then < least) {
                least = then;
                corner = i;
            }
        }
        return corner;
    }

    // ---- dealings

    int dealing(int c, int d, int what) {
        if (noCrossing(c) || noDirection(d) || out(what, 0, 2)) {
            return -2;
        }
        int[] best = {0, -1, -1};
        for (int i = 0; i < 24; i++) {
            for (int j = i + 1; j < 24; j++) {
                int gain = price(c, d, j) - price(c, d, i);
                if (gain > best[0]) {
                    best = new int[] {gain, i, j};
                }
            }
        }
        return best[what];
    }

    int cheap() {
        int best = -1;
        for (int c = world.size() - 1; c >= 0; c--) {
            if (best < 0 || crossing(c, 0) <= crossing(best, 0)) {
                best = c;
            }
        }
        return best;
    }

    int affords(int p) {
        if (noPerson(p)) {
            return -2;
        }
        World old = world.copy();
        int n = 0;
        int size = past.size();
        World eldest = past.peekFirst();
        while (buy(p, 1) >= 0) {
            n++;
            past.removeLast();
            if (past.size() < size) {
                past.addFirst(eldest);
            }
        }
        world = old;
        return n;
    }

    // ---- found, chase

    int found(int p, int tray, int n) {
        if (noPerson(p) || out(tray, 0, 3)) {
            return -2;
        }
        long[] letters = trays[tray];
        if (letters == null) {
            return -6;
        }
        if (letters.length > 10) {
            return -4;
        }
        for (long c : letters) {
            if (c < 0 || c >= world.size()) {
                return -3;
            }
        }
        if (out(n, 0, 30)) {
            return -3;
        }
        Set<List<Integer>> states = Set.of(List.of(world.at(p), world.people.get(p).head, 0));
        for (int i = 0; i < n; i++) {
            Set<List<Integer>> following = new HashSet<>();
            for (List<Integer> s : states) {
                for (int turn = 0; turn < 4; turn++) {
                    int c = s.get(0);
                    int takes = takes(c, s.get(1), turn, world.hours + i, Set.of());
                    boolean fits = takes >= 0 && s.get(2) + takes <= letters.length;
                    for (int j = 0; fits && j < takes; j++) {
                        fits = letters[s.get(2) + j] == c;
                    }
                    if (fits) {
                        int d = turned(s.get(1), turn);
                        following.add(List.of(world.to(c, d), d, s.get(2) + takes));
                    }
                }
            }
            states = following;
        }
        int bits = 0;
        for (List<Integer> s : states) {
            if (s.get(2) == letters.length) {
                bits |= 1 << s.get(0);
            }
        }
        return bits;
    }

    private List<Integer> goings(int c, int head) {
        List<Integer> all = new ArrayList<>();
        for (int h : new int[] {head, (head + 1) % 4}) {
            if (world.to(c, h) >= 0) {
                all.add(10 * world.to(c, h) + h);
            }
        }
        if (all.isEmpty()) {
            all.add(10 * c + head);
        }
        return all;
    }

    private boolean catches(int thief, int watch, int n, Map<Integer, Boolean> memo) {
        if (thief / 10 == watch / 10) {
            return true;
        }
        int key = (thief * 256 + watch) * 32 + n;
        Boolean known = memo.get(key);
        if (known != null) {
            return known;
        }
        boolean all = true;
        for (int t : goings(thief / 10, thief % 10)) {
            boolean any = t / 10 == watch / 10;
            if (!any && n > 0) {
                for (int w : goings(watch / 10, watch % 10)) {
                    any |= catches(t, w, n - 1, memo);
                }
            }
            all &= any;
        }
        memo.put(key, all);
        return all;
    }

    int chase(int thief, int thiefHeads, int watch, int watchHeads) {
        if (noCrossing(thief) || noDirection(thiefHeads) || noCrossing(watch) || noDirection(watchHeads)) {
            return -2;
        }
        Map<Integer, Boolean> memo = new HashMap<>();
        for (int n = 0; n <= 30; n++) {
            if (catches(10 * thief + thiefHeads, 10 * watch + watchHeads, n, memo)) {
                return n;
            }
        }
        return -1;
    }

    int posts(int thief, int thiefHeads, int watchHeads, int n) {
        if (noCrossing(thief) || noDirection(thiefHeads) || noDirection(watchHeads)) {
            return -2;
        }
        if (out(n, 0, 30)) {
            return -3;
        }
        int bits = 0;
        Map<Integer, Boolean> memo = new HashMap<>();
        for (int c = 0; c < world.size(); c++) {
            bits |= catches(10 * thief + thiefHeads, 10 * c + watchHeads, n, memo) ? 1 << c : 0;
        }
        return bits;
    }

    // ---- trays, images

    int numbers(int tray, int sort, int n) {
        if (out(tray, 0, 3) || out(sort, 0, 3)) {
            return -2;
        }
        if (out(n, 0, 40)) {
            return -3;
        }
        trays[tray] = new long[n];
        sorts[tray] = sort;
        return 0;
    }

    long write(int tray, int i, long v) {
        if (out(tray, 0, 3)) {
            return -2;
        }
        if (trays[tray] == null) {
            return -6;
        }
        if (out(i, 0, trays[tray].length - 1)) {
            return -7;
        }
        int cut = 64 - (8 << sorts[tray]);
        trays[tray][i] = v << cut >> cut;
        return trays[tray][i];
    }

    int lists(int tray, int p, int c, int k) {
        if (out(tray, 0, 3) || noPerson(p) || noCrossing(c)) {
            return -2;
        }
        if (trays[tray] == null) {
            return -6;
        }
        if (out(k, 0, 120)) {
            return -3;
        }
        String w = path(p, c, k);
        if (w == null) {
            return -5;
        }
        String all = p + w;
        int n = 0;
        while (n < all.length() && n < trays[tray].length) {
            trays[tray][n] = all.charAt(n) - '0';
            n++;
        }
        return n;
    }

    int image(int i) {
        if (out(i, 0, 1)) {
            return -2;
        }
        images[i] = world.copy();
        return 0;
    }

    int restore(int i) {
        if (out(i, 0, 1)) {
            return -2;
        }
        if (images[i] == null) {
            return -5;
        }
        world = images[i].copy();
        past.clear();
        return 0;
    }

    int count(int what) {
        if (out(what, 0, 9)) {
            return -1;
        }
        int sold = 0;
        for (int n : world.sold.values()) {
            sold += n;
        }
        int lefts = 0;
        for (Person p : world.people) {
            lefts += p.lefts;
        }
        return new int[] {world.wide, world.high, world.people.size(), world.hours, sold, world.freeNow(), past.size(),
            tape.length(), world.lines, lefts}[what];
    }
}
