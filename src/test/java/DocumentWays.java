import java.util.ArrayList;
import java.util.Arrays;
import java.util.LinkedHashSet;
import java.util.List;
import java.util.Set;

/** The document's Terms from "==== 3." on: ways, rounds, corners, dealings, envelopes, chases, weeks, trays, images, codes. */
final class DocumentWays {
    private static final String OPEN = "city 3 3;person 1 1 north;";
    private static final int STREETS = 6;

    private final Check check;
    private final Document doc;

    DocumentWays(Check check, Document doc) {
        this.check = check;
        this.doc = doc;
    }

    void follow() {
        doc.passes("==== 3.");
        waysOfAPerson();
        wayWithK();
        fewest();
        cheapest();
        doc.passes("```text");
        rounds();
        madeFree();
        dealings();
        found();
        chases();
        weeks();
        trays();
        images();
        refused();
        ofSeveral();
        doc.passes("```");
    }

    private void due(String call, long got, long want) {
        check.due(call, got, want);
    }

    private void waysOfAPerson() {
        doc.says("WAYS are of a PERSON from where it is now,");
        LeftTurns x = Check.city(OPEN + "person 0 0 south;");
        due("straight on", x.way(0, 1, 0), 1);
        due("of another one", x.way(1, 3, 0), 1);
        x.go(0, 1);
        due("from where it is now", x.way(0, 8, 0), 1);
        due("heading as it does", x.turn(0, 8, 0, 0), 1);
        afterDeeds();
        doc.says("STREET by STREET (60 at most),");
        due("of 60 streets", Check.city(Gate.open(59)).way(0, 5, 120), 60);
        due("of 61 streets", Check.city(Gate.open(60)).way(0, 5, 120), -1);
        doc.says("HOURS going on as it goes,");
        String narrow = "city 2 2;person 1 0 west;may:head=2 and hour=";
        due("a left now", Check.city(narrow + "0;").way(0, 3, 1), 1);
        due("not now", Check.city(narrow + "1;").way(0, 3, 1), -1);
        due("a left in an hour", Check.city(narrow + "1;").way(0, 2, 1), 2);
        due("not in two", Check.city(narrow + "2;").way(0, 2, 1), -1);
        doc.says("LEFTS taken as said but not asked to be had;");
        LeftTurns y = Check.city(OPEN);
        due("it has none", y.why(0, 3), 4);
        due("with two lefts back", y.way(0, 7, 2), 1);
        due("with one not", y.way(0, 7, 1), 3);
        due("at a free one", Check.city(OPEN + "free 1 1;").way(0, 7, 0), 1);
        doc.says("sold as now.");
        LeftTurns z = Check.city("city 3 3;person 1 1 north coins 9;price:5+sold;may:sold<2;");
        due("back, two lefts at one price", z.cheapest(0, 7, 1), 10);
        z.buy(0, 1);
        due("one is sold", z.cheapest(0, 7, 1), 12);
        due("going takes lefts, it buys none", z.fewest(0, 7, 1), 2);
    }

    /** One may turn left to 3 in the hour 1 alone, and then not in fog; each deed changes what was asked ahead of it. */
    private void afterDeeds() {
        LeftTurns x = Check.city("city 2 2;person 1 0 west;person 0 1 north;person 1 0 east coins 9;may:hour=1 and sold=0;");
        x.image(0);
        due("at first", x.fewest(0, 3, 1), -1);
        x.hours(1);
        due("an hour later", x.fewest(0, 3, 1), 1);
        x.fog(1, 9);
        due("in fog", x.fewest(0, 3, 1), 0);
        x.undo(1);
        due("the fog is undone", x.fewest(0, 3, 1), 1);
        x.undo(1);
        due("the hour is undone", x.fewest(0, 3, 1), -1);
        x.go(1, 0);
        due("behind a street of another one", x.fewest(0, 3, 1), 1);
        x.go(1, 1);
        due("behind two streets", x.fewest(0, 3, 1), -1);
        x.undo(1);
        due("behind one", x.fewest(0, 3, 1), 1);
        x.buy(2, 1);
        due("where one was sold", x.fewest(0, 3, 1), -1);
        x.undo(1);
        due("where none was sold", x.fewest(0, 3, 1), 1);
        x.restore(0);
        due("as at first", x.fewest(0, 3, 1), -1);
        Check.tray(x, 0, 1, 0);
        x.walk(0);
        due("behind a walk", x.fewest(0, 3, 1), 1);
        Check.read(x, "city 2 2;person 1 0 west;may:hour=0;");
        due("in another city", x.fewest(0, 3, 1), 1);
        x.week(Check.seedOf(3), 1);
        due("behind a week", x.fewest(0, 3, 1), -1);
    }

    private static int crossings(String text) {
        LeftTurns x = Check.city(text);
        return x.count(0) * x.count(1);
    }

    private void wayWithK() {
        doc.says("A WAY with k: one to a CROSSING that takes k LEFTS at most, of the fewest STREETS, the first by TURNS.");
        for (String text : AllWalks.allCities()) {
            AllWalks all = new AllWalks(text, STREETS);
            for (int c = 0; c < crossings(text); c++) {
                LeftTurns x = Check.city(text);
                for (int k = 0; k <= 2 * STREETS; k++) {
                    wayAmong(all, x, c, k);
                }
            }
        }
        Model model = Check.model(Gate.open(59));
        LeftTurns y = Check.city(Gate.open(59));
        String turns = model.path(0, 5, 1);
        for (int i = 0; i < 60; i++) {
            due("turn " + i + " of " + turns, y.turn(0, 5, 1, i), turns.charAt(i) - '0');
        }
        LeftTurns z = Check.city(Gate.dearest());
        for (int i = 0; i < 60; i++) {
            due("turn " + i + " of the dearest", z.turn(0, 2, 119, i), i < 59 ? 3 : 2);
        }
        due("none with fewer", z.way(0, 2, 118), -1);
    }

    private void wayAmong(AllWalks all, LeftTurns x, int c, int k) {
        AllWalks.Walk first = all.way(c, k);
        if (first == null) {
            int streets = x.way(0, c, k);
            check.due("a way to " + c + " with " + k + " has more streets, or there is none", streets == -1 || streets > STREETS);
            return;
        }
        String turns = first.turns();
        due("way to " + c + " with " + k, x.way(0, c, k), turns.length());
        for (int i = 0; i < turns.length(); i++) {
            due("turn " + i + " of " + turns, x.turn(0, c, k, i), turns.charAt(i) - '0');
        }
        due("behind " + turns, x.turn(0, c, k, turns.length()), -1);
    }

    private void fewest() {
        doc.says("FEWEST: LEFTS with which there is a WAY of n STREETS or fewer.");
        for (String text : AllWalks.allCities()) {
            AllWalks all = new AllWalks(text, STREETS);
            LeftTurns x = Check.city(text);
            for (int c = 0; c < crossings(text); c++) {
                for (int n = 0; n <= STREETS; n++) {
                    due("fewest to " + c + " within " + n, x.fewest(0, c, n), all.fewest(c, n));
                }
            }
        }
    }

    private void cheapest() {
        doc.says("CHEAPEST: the fewest COINS of a way of n STREETS or fewer, if each LEFT it takes is paid where it is turned, by"
            + " PRICE then (head: in which it goes on).");
        for (String text : AllWalks.allCities()) {
            AllWalks all = new AllWalks(text, STREETS);
            LeftTurns x = Check.city(text);
            for (int c = 0; c < crossings(text); c++) {
                for (int n = 0; n <= STREETS; n++) {
                    due("cheapest to " + c + " within " + n, x.cheapest(0, c, n), all.cheapest(c, n));
                }
            }
        }
        LeftTurns y = Check.city(OPEN + "price:90-10*hour+head;hour 3;");
        due("a left now, going on west", y.cheapest(0, 3, 1), 63);
        due("a left in an hour, going on west", y.cheapest(0, 0, 2), 53);
        due("back now, going on south", y.cheapest(0, 7, 1), 2 * 62);
        due("one coin", Check.city(OPEN).cheapest(0, 3, 4), 1);
        due("none, by rights", Check.city(OPEN).cheapest(0, 3, 5), 0);
    }

    /** A round gone by deeds, each leg a way with the fewest lefts: lefts and streets, null if it can't be gone. */
    private int[] goneInOrder(String text, long[] stops, int[] order) {
        LeftTurns x = Check.city(text);
        int lefts = 0;
        int streets = 0;
        for (int place : order) {
            int stop = (int) stops[place];
            int few = x.fewest(0, stop, 60);
            if (few < 0) {
                return null;
            }
            int length = x.way(0, stop, few);
            x.numbers(3, 0, 1 + length);
            x.lists(3, 0, stop, few);
            due("the leg is gone", x.walk(3), length);
            lefts += few;
            streets += length;
        }
        return new int[] {lefts, streets};
    }

    private static List<int[]> orders(int size) {
        List<int[]> all = new ArrayList<>();
        addOrders(all, new int[size], 0);
        return all;
    }

    /** The first by places first. */
    private static void addOrders(List<int[]> all, int[] order, int known) {
        if (known == order.length) {
            all.add(order.clone());
            return;
        }
        for (int place = 0; place < order.length; place++) {
            boolean had = false;
            for (int i = 0; i < known; i++) {
                had |= order[i] == place;
            }
            if (!had) {
                order[known] = place;
                addOrders(all, order, known + 1);
            }
        }
    }

    private void round(String text, long... stops) {
        int[] best = null;
        int[] bestOrder = null;
        for (int[] order : orders(stops.length)) {
            int[] gone = goneInOrder(text, stops, order);
            if (gone != null && (best == null || gone[0] < best[0] || gone[0] == best[0] && gone[1] < best[1])) {
                best = gone;
                bestOrder = order;
            }
        }
        LeftTurns x = Check.city(text);
        Check.tray(x, 1, stops);
        due("lefts of the round", x.round(0, 1, 0), best == null ? -1 : best[0]);
        due("streets of the round", x.round(0, 1, 1), best == null ? -1 : best[1]);
        for (int i = 0; i < 5; i++) {
            due("stop " + i, x.round(0, 1, 10 + i), best == null || i >= stops.length ? -1 : stops[bestOrder[i]]);
        }
    }

    private void rounds() {
        doc.says("ROUND by a TRAY (1 to 4 CROSSINGS): an order of them: from where it is by a WAY to each (each of the fewest LEFTS"
            + " within 60 STREETS, then of the fewest STREETS, then first by TURNS); the order with the fewest LEFTS together, of these"
            + " the fewest STREETS, then the first by places.");
        for (String text : AllWalks.allCities()) {
            int size = crossings(text);
            round(text, size - 1);
            round(text, 0, size - 1);
            round(text, size - 1, 0, 2);
            round(text, 3, 1, size - 1, 0);
            round(text, 2, 4, 2, 5);
            round(text, 5, 4, 1, 3);
        }
        LeftTurns x = Check.city(OPEN);
        Check.tray(x, 0, 1, 1, 1, 1, 1);
        due("five crossings", x.round(0, 0, 0), -4);
        Check.tray(x, 0);
        due("none", x.round(0, 0, 0), -4);
    }

    private static String withFree(String text, int bits, int wide) {
        StringBuilder told = new StringBuilder(text);
        for (int c = 0; bits >> c != 0; c++) {
            if ((bits >> c & 1) != 0) {
                told.append("free ").append(c % wide).append(' ').append(c / wide).append(';');
            }
        }
        return told.toString();
    }

    private void madeFree() {
        doc.says("MADE FREE: the fewest CROSSINGS (2 at most) to be FREE so that a PERSON comes to a CROSSING with no LEFT within n"
            + " STREETS, of like ones the least set as bits.");
        int streets = 4;
        for (String text : AllWalks.CITIES) {
            int size = crossings(text);
            int wide = Check.city(text).count(0);
            int[][] best = new int[size][streets + 1];
            for (int[] row : best) {
                Arrays.fill(row, -1);
            }
            for (int many = 0; many <= 2; many++) {
                for (int bits = 0; bits < 1 << size; bits++) {
                    if (Integer.bitCount(bits) == many) {
                        tryFree(best, new AllWalks(withFree(text, bits, wide), streets), bits);
                    }
                }
            }
            LeftTurns x = Check.city(text);
            for (int c = 0; c < size; c++) {
                for (int n = 0; n <= streets; n++) {
                    due("which to " + c + " within " + n, x.makeFree(0, c, n, 1), best[c][n]);
                    due("how many", x.makeFree(0, c, n, 0), best[c][n] < 0 ? -1 : Integer.bitCount(best[c][n]));
                }
            }
        }
    }

    private static void tryFree(int[][] best, AllWalks all, int bits) {
        for (int c = 0; c < best.length; c++) {
            for (int n = 0; n < best[c].length; n++) {
                if (best[c][n] < 0 && all.fewest(c, n) == 0) {
                    best[c][n] = bits;
                }
            }
        }
    }

    private void dealing(String text, long gained, long buy, long sell) {
        LeftTurns x = Check.city(text);
        due("gained by " + text, x.dealing(0, 1, 0), gained);
        due("bought by " + text, x.dealing(0, 1, 1), buy);
        due("sold by " + text, x.dealing(0, 1, 2), sell);
    }

    private void dealings() {
        doc.says("DEALING at a CROSSING: to buy one LEFT in an HOUR of the next 24 (0: this one) and sell it whole in a later one, by"
            + " PRICES with sold as now: the most gained, of like ones the first HOUR to buy, then to sell.");
        dealing("city 2 2;price:hour;", 23, 0, 23);
        dealing("city 2 2;price:hour;hour 5;", 18, 0, 18);
        dealing("city 2 2;price:99-hour;", 0, -1, -1);
        dealing("city 2 2;price:99-hour;hour 5;", 23, 18, 19);
        dealing("city 2 2;price:50*day;", 0, -1, -1);
        dealing("city 2 2;price:50*day;hour 1;", 50, 0, 23);
        dealing("city 2 2;price:hour*hour*999*999;", 1000000, 0, 2);
        dealing("city 2 2;price:hour-3;", 20, 0, 23);
        dealing("city 2 2;price:7;", 0, -1, -1);
        dealing("city 2 2;", 0, -1, -1);
        LeftTurns x = Check.city("city 2 2;person 0 0 east coins 99;price:(1+sold)*hour*x+hour*(1-x)*sold*head;");
        due("none is sold", x.dealing(0, 1, 0), 0);
        x.buy(0, 2);
        due("two are sold, for one that heads east", x.dealing(0, 1, 0), 46);
        due("for one that heads west", x.dealing(0, 3, 0), 138);
        due("elsewhere", x.dealing(1, 1, 0), 23);
    }

    private void found() {
        doc.says("FOUND in a TRAY (0 to 10 CROSSINGS): envelopes, in order, of the LEFTS that a PERSON takes in its next n STREETS, one"
            + " for each (back: two), all of them: where it may be then.");
        for (String text : AllWalks.allCities()) {
            AllWalks all = new AllWalks(text, 4);
            Set<List<Integer>> left = new LinkedHashSet<>();
            for (AllWalks.Walk walk : all.walks) {
                left.add(walk.envelopes());
            }
            for (List<Integer> envelopes : left) {
                foundAfter(all, text, envelopes);
            }
            foundAfter(all, text, List.of(0));
            foundAfter(all, text, List.of(4, 4, 4));
            foundAfter(all, text, List.of(5, 1, 5));
        }
        LeftTurns x = Check.city("city 3 3;person 1 1 south;");
        Check.tray(x, 0, 4, 4, 1, 1, 4, 4, 1, 1, 4, 4);
        due("ten envelopes of five backs", x.found(0, 0, 5), 1 << 1);
        Check.tray(x, 0, 4, 4, 1, 1, 4, 4, 1, 1, 4, 4, 1);
        due("eleven", x.found(0, 0, 5), -4);
    }

    private void foundAfter(AllWalks all, String text, List<Integer> envelopes) {
        LeftTurns x = Check.city(text);
        x.numbers(2, 0, envelopes.size());
        for (int i = 0; i < envelopes.size(); i++) {
            x.write(2, i, envelopes.get(i));
        }
        for (int n = 0; n <= 4; n++) {
            due("found " + envelopes + " in " + n, x.found(0, 2, n), all.found(envelopes, n));
        }
    }

    /** In a city of 2 by 2 nobody goes round but clockwise: who heads east at 0 may go on to 1, 3, 2, 0. */
    private void chases() {
        doc.says("CHASE: a thief and a watch, each at a CROSSING, HEADING some way, go in turn, the thief first,");
        LeftTurns x = Check.city("city 2 2;");
        due("the thief is away ere the watch comes", x.chase(0, 2, 1, 3), -1);
        doc.says("a STREET straight on or right each");
        due("the watch goes straight on", x.chase(2, 2, 0, 2), 1);
        due("the watch goes right", x.chase(2, 2, 3, 2), 1);
        due("straight on, then right", x.chase(2, 2, 1, 2), 2);
        due("never left", x.chase(2, 2, 3, 0), -1);
        due("the thief may go right", x.chase(0, 1, 1, 0), -1);
        due("or must go straight on", Check.city("city 2 2;wall 0 0 2;").chase(0, 1, 1, 0), 0);
        due("or must go right", x.chase(2, 3, 0, 3), 0);
        doc.says("(who can't: stays and HEADS on as he does);");
        due("the thief stays", x.chase(2, 2, 3, 3), 1);
        due("the watch stays", x.chase(2, 2, 1, 0), -1);
        due("both stay", x.chase(3, 1, 0, 3), -1);
        doc.says("the watch CATCHES, as soon as both are at one CROSSING (also as it begins, also as the thief goes).");
        for (int h = 0; h < 16; h++) {
            due("as it begins", x.chase(3, h / 4, 3, h % 4), 0);
        }
        due("as the thief goes", x.chase(1, 3, 0, 2), 0);
        due("as the thief goes for the second time", Check.city("city 2 2;wall 1 0 3;").chase(1, 2, 0, 2), 1);
    }

    private void weeks() {
        doc.says("A WEEK by a SEED (x, an int; a DRAW: x becomes 1103515245 x + 12345, it is x >>> 16): so many times (1 to 60): DRAW"
            + " modulo 4: 0 and 1 PERSON DRAW modulo PEOPLE goes by TURN DRAW modulo 4, if it can; 2 PERSON DRAW modulo PEOPLE buys one"
            + " LEFT, if it can; 3 an HOUR.");
        String text = "city 3 3;person 1 1 north lefts 3 coins 9;person 0 0 south coins 4;person 2 2 west lefts 98 coins 99;price:1+sold;"
            + "may:not hour=2;";
        int[] seeds = {0, 1, -1, 5, 77, 123456789, Integer.MAX_VALUE, Integer.MIN_VALUE};
        for (int seed : seeds) {
            for (int times : new int[] {1, 2, 7, 60}) {
                LeftTurns x = Check.city(text);
                LeftTurns y = Check.city(text);
                due("week(" + seed + ", " + times + ")", x.week(seed, times), Check.weekByCalls(y, seed, times));
                for (int p = 0; p < 3; p++) {
                    check.person(x, p, y.person(p, 0), y.person(p, 1), y.person(p, 2), y.person(p, 3), y.person(p, 4));
                }
                due("hours", x.count(3), y.count(3));
                due("sold", x.count(4), y.count(4));
            }
        }
        LeftTurns x = Check.city(text);
        due("times", x.week(1, 0), -3);
        due("times", x.week(1, 61), -3);
    }

    private void trays() {
        doc.says("TRAYS 0 to 3 are MISSING at first, or have 0 to 40 numbers of 8 bits (sort 0), 16 (1), 32 (2), 64 (3).");
        LeftTurns x = new LeftTurns();
        long wide = 0x1234567812345678L;
        long[] cut = {0x78, 0x5678, 0x12345678, wide};
        for (int tray = 0; tray < 4; tray++) {
            due("missing at first", x.write(tray, 0, 1), -6);
            due("has none", x.numbers(tray, tray, 0), 0);
            due("is not missing", x.write(tray, 0, 1), -7);
            due("has 40", x.numbers(tray, tray, 40), 0);
            due("not 41", x.numbers(tray, tray, 41), -3);
            due("the last", x.write(tray, 39, wide), cut[tray]);
            due("all bits set", x.write(tray, 0, -1), -1);
        }
        due("no tray 4", x.numbers(4, 0, 1), -2);
        due("no sort 4", x.numbers(0, 4, 1), -2);
    }

    private void images() {
        doc.says("IMAGES 0 to 1: THE CITY and what a call could bring back by UNDOING; nothing can be UNDONE behind (none at first).");
        LeftTurns x = Check.city("city 3 2;wall 0 0 1;free 2 1;person 1 1 north lefts 3 coins 9;price:2+sold;may:hour<9;hour 4;");
        due("none at first", x.restore(0), -5);
        due("none at first", x.restore(1), -5);
        due("no image 2", x.image(2), -2);
        x.fog(0, 9);
        x.buy(0, 1);
        x.go(0, 2);
        x.image(1);
        x.go(0, 1);
        x.sell(0);
        x.hours(9);
        Check.read(x, "city 2 2;");
        due("restored", x.restore(1), 0);
        due("nothing can be undone", x.count(6), 0);
        due("wide", x.count(0), 3);
        due("the wall", x.street(0, 1), -1);
        due("lines", x.count(8), 7);
        due("told free and fog", x.count(5), 2);
        due("the fog", x.crossing(0, 3), 8);
        check.person(x, 0, 3, 3, 3, 7, 1);
        due("hours", x.count(3), 5);
        due("sold", x.crossing(4, 1), 1);
        due("the price", x.price(4, 0, 0), 3);
        due("the law", x.why(0, 3), 0);
        x.hours(4);
        due("the law", x.why(0, 3), 3);
    }

    private void refused() {
        doc.says("Refused calls answer by a code and change nothing: -2 there is none such; -3 a number can't be; -4 too many; -5 it"
            + " can't be now; -6 a TRAY is MISSING; -7 it has no such number; -11 to -14 why not (1 to 4); -30 less the FAULT: a text.");
        Twins told = new Twins(check, x -> {
            Check.read(x, "city 3 3;person 1 1 north lefts 1 coins 9;person 1 1 east lefts 99;may:not head=3;hour 4;");
            x.hours(2);
            x.image(0);
            Check.tray(x, 0, 0, 1, 1);
        });
        told.refused("none such", -2, x -> x.fog(9, 1));
        told.refused("can't be", -3, x -> x.fog(0, 0));
        told.refused("too many", -4, x -> x.hand(0, 1, 1));
        told.refused("not now", -5, x -> x.restore(1));
        told.refused("missing", -6, x -> x.walk(1));
        told.refused("no such number", -7, x -> x.write(0, 3, 1));
        told.refused("no such person", -11, x -> x.go(2, 0));
        told.and(x -> x.go(0, 0)).refused("no street", -12, x -> x.go(0, 0));
        told.refused("it may not", -13, x -> x.go(0, 2));
        told.refused("not so many lefts", -14, x -> x.go(0, 3));
        String[] texts = {"!", "hour", "city 9 9;", "price:(((((((1)))))));"};
        for (int kind = 1; kind <= 4; kind++) {
            String text = texts[kind - 1];
            int code = -30 - kind;
            told.leftAlone("the text " + text, x -> due("the text " + text, Check.read(x, text), code));
        }
    }

    private void ofSeveral() {
        doc.says("(Of several that which the call tells first; all these ahead of NONE.)");
        LeftTurns x = Check.city("city 2 2;person 0 0 north lefts 99;wall 1 1 0;wall 1 1 3;");
        due("-2 ahead of -3", x.price(4, 0, 1000), -2);
        due("-3 ahead of -5", x.buy(0, 21), -3);
        due("-5 ahead of -4", x.buy(0, 1), -5);
        due("-2 ahead of -6", x.judge(0, 4), -2);
        due("-6 ahead of -3", x.found(0, 0, 31), -6);
        due("there is no way", x.way(0, 3, 120), -1);
        due("-3 ahead of it", x.way(0, 3, 121), -3);
        due("-3 ahead of it", x.turn(0, 3, 0, -1), -3);
        due("-3 ahead of it", x.fewest(0, 3, 61), -3);
        due("-2 ahead of it", x.makeFree(0, 3, 20, 2), -2);
        due("-3 ahead of it", x.bestCorner(0, 3, 31), -3);
        due("-2 ahead of nothing to gain", x.dealing(0, 0, 3), -2);
    }
}
