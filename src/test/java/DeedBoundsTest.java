/** The bounds of deeds: promises 10 to 19, what they take, what is lost, what can be undone. */
public final class DeedBoundsTest {
    private static final Check CHECK = new Check("DeedBoundsTest");
    /** The one person goes round clockwise by rights, 0 1 3 2, for ever. */
    private static final String CIRCLE = "city 2 2;person 0 0 north;";
    /** Between 0 and 1 there is nothing but back; lefts are for nothing at 0, and as dear as can be at 1. */
    private static final String TWO = "city 2 2;wall 0 0 2;wall 1 0 2;price:500*500*4*x;";

    public static void main(String[] args) {
        goingTakesLefts();
        goingInItsHour();
        walksOfAllSizes();
        walksUpToTheirFault();
        walksRunOutOfLefts();
        walksNumbers();
        buyingByNumber();
        buyingByCoins();
        buyingUpTo99();
        buyingTheDearest();
        usedUpTo999();
        sellingAThird();
        sellingUpTo9999();
        handingByNumber();
        handingUpTo99();
        fogs();
        laterFogsStrike();
        hours();
        undoingUpToTen();
        undoingAroundAndAround();
        undoneAsAWhole();
        undoneEvenIfAllIsAsItWas();
        notUndone();
        weeksByTimes();
        weeksBySeeds();
        weeksAtTheirBounds();
        CHECK.end();
    }

    private static void due(String call, long got, long want) {
        CHECK.due(call, got, want);
    }

    private static void goingTakesLefts() {
        for (int lefts = 0; lefts <= 3; lefts++) {
            String city = "city 3 3;person 1 1 north lefts " + lefts + ";";
            for (int turn = 0; turn < 4; turn++) {
                int takes = Math.max(0, turn - 1);
                LeftTurns x = Check.city(city);
                int to = new int[] {1, 5, 3, 7}[turn];
                due("turn " + turn + " with " + lefts, x.go(0, turn), takes > lefts ? -14 : to);
                if (takes > lefts) {
                    CHECK.person(x, 0, 4, 0, lefts, 0, 0);
                } else {
                    CHECK.person(x, 0, to, new int[] {0, 1, 3, 2}[turn], lefts - takes, 0, takes);
                }
                due("hours", x.count(3), takes > lefts ? 0 : 1);
                due("can be undone", x.count(6), takes > lefts ? 0 : 1);
                LeftTurns y = Check.city(city + "free 1 1;");
                due("turn " + turn + " at a free one", y.go(0, turn), to);
                CHECK.person(y, 0, to, new int[] {0, 1, 3, 2}[turn], lefts, 0, 0);
            }
        }
    }

    /** The law is asked in the hour in which one turns, of the direction in which one goes then. */
    private static void goingInItsHour() {
        LeftTurns x = Check.city("city 2 2;person 0 0 north lefts 9;may:hour=0 and day=1 and head=2 and x=0 and y=0;hour 22;");
        due("at 22", x.go(0, 3), -13);
        x.hours(1);
        due("at 23", x.go(0, 3), -13);
        x.hours(1);
        due("at 24", x.go(0, 3), 2);
        due("hours", x.count(3), 25);
        x.undo(1);
        x.hours(1);
        due("at 25", x.go(0, 3), -13);
        LeftTurns y = Check.city("city 3 3;person 1 1 north lefts 9;");
        y.fog(4, 1);
        due("in the last hour of fog", y.go(0, 2), 3);
        CHECK.person(y, 0, 3, 3, 9, 0, 0);
        due("fog is over as it goes", y.crossing(4, 2), 0);
    }

    private static void circling(LeftTurns x, int tray, int size) {
        x.numbers(tray, 0, size);
        for (int i = 1; i < size; i++) {
            x.write(tray, i, 1);
        }
    }

    private static void walksOfAllSizes() {
        int[] around = {0, 1, 3, 2};
        for (int size : new int[] {1, 2, 5, 39, 40}) {
            LeftTurns x = Check.city(CIRCLE);
            circling(x, 3, size);
            int to = around[(size - 1) % 4];
            CHECK.judged(x, 3, -1, 0, to, 0);
            due("nothing has changed", x.count(3), 0);
            due("streets", x.walk(3), size - 1);
            due("to", x.person(0, 0), to);
            due("hours", x.count(3), size - 1);
            due("can be undone", x.count(6), size > 1 ? 1 : 0);
        }
        LeftTurns x = Check.city(CIRCLE);
        x.numbers(3, 0, 0);
        CHECK.judged(x, 3, 0, 1, -1, 0);
        due("streets of none", x.walk(3), 0);
    }

    private static void walksUpToTheirFault() {
        int[] around = {0, 1, 3, 2};
        for (int wrong : new int[] {1, 2, 20, 38, 39}) {
            for (int turn : new int[] {0, 4, -1}) {
                LeftTurns x = Check.city(CIRCLE);
                circling(x, 0, 40);
                x.write(0, wrong, turn);
                CHECK.judged(x, 0, wrong, turn == 0 ? 2 : 1, around[(wrong - 1) % 4], 0);
                due("streets up to " + wrong, x.walk(0), wrong - 1);
                due("hours", x.count(3), wrong - 1);
                due("can be undone", x.count(6), wrong > 1 ? 1 : 0);
            }
        }
    }

    /** Backs between two crossings: each takes two lefts, and the first that can't be had is told. */
    private static void walksRunOutOfLefts() {
        for (int lefts = 0; lefts <= 7; lefts++) {
            LeftTurns x = Check.city(TWO + "person 0 0 west lefts " + lefts + ";");
            Check.tray(x, 1, 0, 3, 3, 3);
            int can = Math.min(3, lefts / 2);
            CHECK.judged(x, 1, can < 3 ? can + 1 : -1, can < 3 ? 4 : 0, can % 2, 2 * can);
            due("streets", x.walk(1), can);
            CHECK.person(x, 0, can % 2, can % 2 == 0 ? 3 : 1, lefts - 2 * can, 0, 2 * can);
        }
        LeftTurns x = Check.city("city 3 3;person 1 1 north lefts 9;may:hour<2;");
        Check.tray(x, 0, 0, 2, 2, 2);
        CHECK.judged(x, 0, 3, 3, 6, 2);
        LeftTurns y = Check.city("city 3 3;person 1 1 north;");
        y.fog(4, 5);
        y.fog(3, 1);
        Check.tray(y, 0, 0, 2, 2);
        CHECK.judged(y, 0, 2, 4, 3, 0);
        y.fog(3, 2);
        CHECK.judged(y, 0, -1, 0, 6, 0);
    }

    /** The person and the turns of a walk, at their bounds and far beyond. */
    private static void walksNumbers() {
        LeftTurns x = Check.city("city 3 3;person 1 1 north;person 1 2 north;");
        long[] nobody = {-1, 2, 1L << 32, (1L << 32) + 1, -1L << 32, Long.MIN_VALUE, Long.MAX_VALUE};
        for (long p : nobody) {
            Check.tray(x, 0, p, 0);
            CHECK.judged(x, 0, 0, 1, -1, 0);
            due("walk of " + p, x.walk(0), 0);
        }
        Check.tray(x, 0, 1, 0);
        CHECK.judged(x, 0, -1, 0, 4, 0);
        long[] noTurn = {-1, 4, 1L << 32, (1L << 32) + 1, -1L << 32, Long.MIN_VALUE, Long.MAX_VALUE};
        for (long turn : noTurn) {
            Check.tray(x, 0, 0, 0, turn);
            CHECK.judged(x, 0, 2, 1, 1, 0);
        }
        due("nobody has gone", x.count(3), 0);
    }

    private static void buyingByNumber() {
        for (int n : new int[] {1, 2, 19, 20}) {
            LeftTurns x = Check.city("city 2 2;person 0 0 north coins 999;price:1+sold;");
            due("buy " + n, x.buy(0, n), n * (n + 1) / 2);
            CHECK.person(x, 0, 0, 0, n, 999 - n * (n + 1) / 2, 0);
            due("sold", x.crossing(0, 1), n);
            due("sold in all", x.count(4), n);
            due("the next one", x.price(0, 0, 0), 1 + n);
            due("no hour goes by", x.count(3), 0);
            due("can be undone", x.count(6), 1);
        }
        LeftTurns x = Check.city("city 2 2;person 0 0 north coins 999;");
        for (int n : new int[] {0, 21, -1, Integer.MIN_VALUE, Integer.MAX_VALUE}) {
            due("buy " + n, x.buy(0, n), -3);
        }
        due("nothing was sold", x.count(4), 0);
    }

    /** Three lefts at 3, 4 and 5 are twelve coins. */
    private static void buyingByCoins() {
        for (int coins = 10; coins <= 14; coins++) {
            LeftTurns x = Check.city("city 2 2;person 0 0 north coins " + coins + ";price:3+sold;");
            due("affords", x.affords(0), coins < 12 ? 2 : 3);
            due("three with " + coins, x.buy(0, 3), coins < 12 ? -5 : 12);
            due("coins then", x.person(0, 3), coins < 12 ? coins : coins - 12);
            due("lefts then", x.person(0, 2), coins < 12 ? 0 : 3);
            due("can be undone", x.count(6), coins < 12 ? 0 : 1);
        }
        due("one for 999", Check.city("city 2 2;person 0 0 north coins 999;price:999;").buy(0, 1), 999);
        due("one for 999 with 998", Check.city("city 2 2;person 0 0 north coins 998;price:999;").buy(0, 1), -5);
        due("one for 1000", Check.city("city 2 2;person 0 0 north coins 999;price:999+1;").buy(0, 1), -5);
        due("cheaper each time", Check.city("city 2 2;person 0 0 north coins 6;price:3-sold;").buy(0, 20), 6);
        due("cheaper each time, a coin short", Check.city("city 2 2;person 0 0 north coins 5;price:3-sold;").buy(0, 20), -5);
    }

    private static void buyingUpTo99() {
        for (int lefts = 78; lefts <= 80; lefts++) {
            LeftTurns x = Check.city("city 2 2;person 0 0 north lefts " + lefts + " coins 20;");
            due("twenty on top of " + lefts, x.buy(0, 20), lefts > 79 ? -4 : 20);
            due("lefts then", x.person(0, 2), lefts > 79 ? lefts : lefts + 20);
            due("coins then", x.person(0, 3), lefts > 79 ? 20 : 0);
            due("sold", x.count(4), lefts > 79 ? 0 : 20);
        }
        for (int lefts = 97; lefts <= 99; lefts++) {
            LeftTurns x = Check.city("city 2 2;person 0 0 north lefts " + lefts + " coins 1;");
            due("one on top of " + lefts, x.buy(0, 1), lefts > 98 ? -4 : 1);
            due("the next one is too dear first", x.buy(0, 2), -5);
        }
    }

    private static void buyingTheDearest() {
        LeftTurns x = Check.city(TWO + "person 1 0 east coins 999;");
        due("twenty of a million each", x.buy(0, 20), -5);
        due("one", x.buy(0, 1), -5);
        due("affords", x.affords(0), 0);
        LeftTurns y = Check.city("city 2 2;person 0 0 north coins 999;price:500*500*4*sold;");
        due("the first one is for nothing", y.buy(0, 1), 0);
        due("the next one is not", y.buy(0, 1), -5);
        due("nor twenty", y.buy(0, 20), -5);
    }

    /** Goes back and forth at 0, with lefts for nothing to be had, until so many are used. */
    private static LeftTurns usedOnes(int many) {
        LeftTurns x = Check.city(TWO + "person 0 0 west lefts 99 coins 999;");
        Check.tray(x, 0, 0, 3, 3, 3, 3, 3, 3, 3, 3, 3, 3);
        for (int i = 0; i < many / 20; i++) {
            x.walk(0);
            x.buy(0, 20);
        }
        Check.tray(x, 0, 0, 3, 3);
        for (int i = 0; i < many % 20 / 4; i++) {
            x.walk(0);
        }
        due("so many are used", x.person(0, 4), many);
        due("at 0", x.person(0, 0), 0);
        return x;
    }

    private static void usedUpTo999() {
        LeftTurns x = usedOnes(996);
        due("back", x.go(0, 3), 1);
        due("998", x.person(0, 4), 998);
        due("back", x.go(0, 3), 0);
        due("999, and one is lost", x.person(0, 4), 999);
        x.buy(0, 20);
        due("back", x.go(0, 3), 1);
        due("999, and two are lost", x.person(0, 4), 999);
        due("lefts are taken all the same", x.go(0, 3), 0);
        x.undo(3);
        due("999 still", x.person(0, 4), 999);
        x.undo(1);
        due("998 again", x.person(0, 4), 998);
        x.go(0, 3);
        x.go(0, 3);
        due("sold where a third of a million is", x.sell(0), 999 * 333333);
        due("coins", x.person(0, 3), 9999);
        due("none used", x.person(0, 4), 0);
        due("sold stays", x.crossing(1, 1), 0);
        due("none to sell", x.sell(0), -5);
        // One left at a time comes to 999 too.
        LeftTurns y = Check.city("city 3 3;person 1 1 north lefts 99;price:0;");
        Check.tray(y, 0, 0, 2, 2, 2, 2, 2, 2, 2, 2, 2, 2, 2, 2, 2, 2, 2, 2, 2, 2, 2, 2);
        for (int i = 0; i < 49; i++) {
            y.walk(0);
            y.buy(0, 20);
        }
        due("980", y.person(0, 4), 980);
        due("eighteen more", walked(y, 18), 998);
        due("one more", walked(y, 1), 999);
        due("one more is lost", walked(y, 1), 999);
    }

    private static int walked(LeftTurns x, int lefts) {
        for (int i = 0; i < lefts; i++) {
            x.go(0, 2);
        }
        return x.person(0, 4);
    }

    /** Two used ones, at 0 and heading west: a third of the price, cut. */
    private static void sellingAThird() {
        for (int price = 0; price <= 10; price++) {
            LeftTurns x = Check.city("city 2 2;wall 0 0 2;person 1 0 east lefts 2;price:" + price + "+sold;");
            due("back", x.go(0, 3), 0);
            due("sold at " + price, x.sell(0), 2 * (price / 3));
            CHECK.person(x, 0, 0, 3, 0, 2 * (price / 3), 0);
            due("none is sold to it", x.count(4), 0);
            due("can be undone", x.count(6), 2);
            due("no hour goes by", x.count(3), 1);
        }
        LeftTurns x = Check.city("city 2 2;wall 0 0 2;person 1 0 east lefts 2;price:9*head+hour+y;");
        x.go(0, 3);
        due("heading west in the hour 1", x.sell(0), 2 * 9);
    }

    /** A back makes two used ones; 999 coins and two times 4,500 are 9,999. */
    private static void sellingUpTo9999() {
        for (int third = 4498; third <= 4502; third++) {
            LeftTurns x = Check.city("city 2 2;wall 0 0 2;person 1 0 east lefts 2 coins 999;price:500*27+" + (third * 3 - 13490)
                + "-10;");
            x.go(0, 3);
            due("what they cost", x.sell(0), 2 * third);
            due("coins", x.person(0, 3), Math.min(9999, 999 + 2 * third));
            x.undo(1);
            CHECK.person(x, 0, 0, 3, 0, 999, 2);
        }
        LeftTurns x = Check.city("city 2 2;wall 0 0 2;person 1 0 east lefts 4 coins 999;price:999*15;");
        x.go(0, 3);
        due("sold", x.sell(0), 2 * 4995);
        due("coins", x.person(0, 3), 9999);
        x.go(0, 3);
        due("sold with 9,999", x.sell(0), 2 * 4995);
        due("all is lost", x.person(0, 3), 9999);
        due("none used", x.person(0, 4), 0);
    }

    private static void handingByNumber() {
        for (int n : new int[] {1, 2, 98, 99}) {
            LeftTurns x = Check.city("city 2 2;person 0 0 north lefts 99;person 0 0 east;");
            due("hand " + n, x.hand(0, 1, n), n);
            due("the giver's", x.person(0, 2), 99 - n);
            due("of all", x.count(9), 99);
            due("can be undone", x.count(6), 1);
        }
        for (int lefts = 4; lefts <= 6; lefts++) {
            LeftTurns x = Check.city("city 2 2;person 0 0 north lefts " + lefts + ";person 0 0 east lefts 1;");
            due("five of " + lefts, x.hand(0, 1, 5), lefts < 5 ? -5 : 6);
            due("the giver's", x.person(0, 2), lefts < 5 ? lefts : lefts - 5);
        }
        LeftTurns x = Check.city("city 2 2;person 0 0 north lefts 5;person 1 0 north lefts 5;person 0 1 north lefts 5;");
        due("a crossing on", x.hand(0, 1, 1), -5);
        due("a crossing on", x.hand(0, 2, 1), -5);
        x.go(2, 0);
        due("at one crossing", x.hand(0, 2, 1), 6);
        due("and back", x.hand(2, 0, 6), 10);
    }

    private static void handingUpTo99() {
        for (int lefts = 93; lefts <= 95; lefts++) {
            LeftTurns x = Check.city("city 2 2;person 0 0 north lefts 5;person 0 0 east lefts " + lefts + ";");
            due("five on top of " + lefts, x.hand(0, 1, 5), lefts > 94 ? -4 : lefts + 5);
            due("the giver's", x.person(0, 2), lefts > 94 ? 5 : 0);
            due("the other's", x.person(1, 2), lefts > 94 ? lefts : lefts + 5);
        }
    }

    private static void fogs() {
        LeftTurns x = Check.city("city 5 5;free 0 0;");
        due("at the last crossing", x.fog(24, 1), 2);
        due("behind it", x.fog(25, 1), -2);
        for (int c = 0; c < 25; c++) {
            due("fog at " + c, x.fog(c, 99), Math.max(2, c + 2 - (c == 24 ? 1 : 0)));
        }
        due("all are free", x.count(5), 25);
        x.hours(98);
        due("all are free in their last hour", x.count(5), 25);
        x.hours(1);
        due("none but the told one behind it", x.count(5), 1);
        for (int n : new int[] {0, 100, -1}) {
            due("fog for " + n, x.fog(0, n), -3);
        }
    }

    private static void laterFogsStrike() {
        LeftTurns x = Check.city("city 2 2;");
        x.fog(0, 50);
        due("a shorter one", x.fog(0, 2), 1);
        due("hours left", x.crossing(0, 3), 2);
        due("a longer one", x.fog(0, 7), 1);
        due("hours left", x.crossing(0, 3), 7);
        x.hours(3);
        due("hours left", x.crossing(0, 3), 4);
        due("from then on", x.fog(0, 5), 1);
        due("hours left", x.crossing(0, 3), 5);
        due("one elsewhere", x.fog(1, 1), 2);
        due("leaves it", x.crossing(0, 3), 5);
        x.hours(1);
        due("its own hour is over", x.count(5), 1);
        x.undo(1);
        due("undone it is not", x.count(5), 2);
        x.undo(5);
        due("the first one", x.crossing(0, 3), 50);
    }

    private static void hours() {
        LeftTurns x = Check.city("hour 999;");
        due("one", x.hours(1), 1000);
        due("99", x.hours(99), 1099);
        for (int n : new int[] {0, 100, -1, Integer.MIN_VALUE, Integer.MAX_VALUE}) {
            due("hours(" + n + ")", x.hours(n), -3);
        }
        due("count", x.count(3), 1099);
        due("undone", x.undo(2), 0);
        due("count", x.count(3), 999);
    }

    private static void undoingUpToTen() {
        for (int done = 0; done <= 13; done++) {
            int can = Math.min(10, done);
            for (int n = 0; n <= 12; n++) {
                LeftTurns x = Check.city("city 2 2;");
                for (int i = 0; i < done; i++) {
                    x.hours(1);
                }
                due("can be undone of " + done, x.count(6), can);
                boolean refused = n < 1 || n > can;
                due("undo(" + n + ") of " + done, x.undo(n), refused ? -3 : can - n);
                due("hours", x.count(3), refused ? done : done - n);
                due("can be undone then", x.count(6), refused ? can : can - n);
            }
        }
    }

    /** Deeds and undoings by turns, against a row of hours that is kept here. */
    private static void undoingAroundAndAround() {
        LeftTurns x = new LeftTurns();
        int[] row = new int[400];
        int last = 0;
        int can = 0;
        for (int i = 1; i <= 160; i++) {
            if (i % 7 == 0 && can > 0) {
                int n = 1 + i % can;
                last -= n;
                can -= n;
                due("undo(" + n + ")", x.undo(n), can);
            } else {
                row[last + 1] = row[last] + 1 + i % 99;
                last++;
                can = Math.min(10, can + 1);
                due("hours", x.hours(1 + i % 99), row[last]);
            }
            due("hours gone by", x.count(3), row[last]);
            due("can be undone", x.count(6), can);
        }
    }

    private static void undoneAsAWhole() {
        LeftTurns x = Check.city("city 2 2;person 0 0 north lefts 5 coins 40;person 0 0 west lefts 4;price:3;");
        circling(x, 0, 40);
        due("a walk of 39", x.walk(0), 39);
        due("one undoing", x.count(6), 1);
        due("undone", x.undo(1), 0);
        CHECK.person(x, 0, 0, 0, 5, 40, 0);
        due("hours", x.count(3), 0);
        int could = x.week(12, 60);
        CHECK.due("a week", could > 1);
        due("one undoing", x.count(6), 1);
        due("undone", x.undo(1), 0);
        CHECK.person(x, 0, 0, 0, 5, 40, 0);
        CHECK.person(x, 1, 0, 3, 4, 0, 0);
        due("hours", x.count(3), 0);
        due("sold", x.count(4), 0);
        x.buy(0, 3);
        x.hand(0, 1, 6);
        x.fog(2, 9);
        due("back", x.go(0, 3), 2);
        due("all at once", x.undo(4), 0);
        CHECK.person(x, 0, 0, 0, 5, 40, 0);
        CHECK.person(x, 1, 0, 3, 4, 0, 0);
        due("no fog", x.count(5), 0);
        due("sold", x.count(4), 0);
        due("hours", x.count(3), 0);
    }

    private static void undoneEvenIfAllIsAsItWas() {
        LeftTurns x = Check.city("city 2 2;person 0 0 west lefts 5 coins 40;price:0;wall 0 0 2;");
        x.fog(0, 5);
        due("fog", x.count(6), 1);
        x.fog(0, 5);
        due("the same fog", x.count(6), 2);
        x.go(0, 3);
        x.go(0, 3);
        due("there in fog, and back", x.count(6), 4);
        x.hours(5);
        x.go(0, 3);
        x.sell(0);
        due("sold for nothing", x.count(6), 7);
        due("the one call", x.undo(1), 6);
        due("used", x.person(0, 4), 4);
        due("the latest first", x.undo(5), 1);
        due("fog", x.crossing(0, 3), 5);
        due("and the first", x.undo(1), 0);
        due("no fog", x.crossing(0, 3), 0);
    }

    private static void notUndone() {
        LeftTurns x = Check.city("city 2 2;person 0 0 north;");
        x.hours(1);
        x.numbers(0, 0, 1);
        due("a walk of nothing", x.walk(0), 0);
        due("a week of nothing", x.week(weekThatCannot(), 1), 0);
        x.image(0);
        x.lists(0, 0, 1, 0);
        x.write(0, 0, 0);
        x.judge(0, 0);
        x.affords(0);
        Check.feed(x, "hour 1;");
        due("one thing can be undone", x.count(6), 1);
        due("it is the hour", x.undo(1), 0);
        due("hours", x.count(3), 0);
    }

    /** A seed whose first draw makes the one person buy, for which it has no coins. */
    private static int weekThatCannot() {
        int seed = -1;
        while ((1103515245 * seed + 12345 >>> 16) % 4 != 2) {
            seed--;
        }
        return seed;
    }

    private static void weeksByTimes() {
        for (int times : new int[] {0, 61, -1, Integer.MIN_VALUE, Integer.MAX_VALUE}) {
            due("week of " + times, Check.city(CIRCLE).week(3, times), -3);
            due("week of " + times + " of nobody", new LeftTurns().week(3, times), -3);
        }
        for (int times : new int[] {1, 2, 59, 60}) {
            LeftTurns x = Check.city(CIRCLE);
            LeftTurns y = Check.city(CIRCLE);
            due("week of " + times, x.week(77, times), Check.weekByCalls(y, 77, times));
            due("where it is", x.person(0, 0), y.person(0, 0));
            due("hours", x.count(3), y.count(3));
            due("week of nobody", Check.city("city 2 2;").week(77, times), -5);
        }
    }

    /** All seeds wrap around as ints do; people of 1 to 5. */
    private static void weeksBySeeds() {
        String people = "person 0 0 south lefts 2 coins 9;person 1 1 east lefts 98 coins 99;person 2 2 north;"
            + "person 2 0 west coins 3;person 0 2 east lefts 1;";
        String[] all = people.split(";");
        int[] seeds = {0, 1, -1, 12345, 1 << 16, 1 << 31, Integer.MAX_VALUE, Integer.MIN_VALUE + 1, -1103515245};
        for (int many = 1; many <= 5; many++) {
            StringBuilder text = new StringBuilder("city 3 3;price:1+sold;free 1 0;may:not hour=3;");
            for (int i = 0; i < many; i++) {
                text.append(all[i]).append(';');
            }
            for (int seed : seeds) {
                LeftTurns x = Check.city(text.toString());
                LeftTurns y = Check.city(text.toString());
                due("week(" + seed + ", 60) of " + many, x.week(seed, 60), Check.weekByCalls(y, seed, 60));
                for (int p = 0; p < many; p++) {
                    CHECK.person(x, p, y.person(p, 0), y.person(p, 1), y.person(p, 2), y.person(p, 3), y.person(p, 4));
                }
                due("hours", x.count(3), y.count(3));
                due("sold", x.count(4), y.count(4));
            }
        }
    }

    /** One who has 99 lefts, or a coin too few, buys none in a week either; one of each fewer does. */
    private static void weeksAtTheirBounds() {
        int buys = weekThatCannot();
        due("with 99", Check.city("city 2 2;price:3;person 0 0 north lefts 99 coins 9;").week(buys, 1), 0);
        due("with 98", Check.city("city 2 2;price:3;person 0 0 north lefts 98 coins 9;").week(buys, 1), 1);
        due("with 2 coins", Check.city("city 2 2;price:3;person 0 0 north coins 2;").week(buys, 1), 0);
        LeftTurns x = Check.city("city 2 2;price:3;person 0 0 north coins 3;");
        due("with 3 coins", x.week(buys, 1), 1);
        CHECK.person(x, 0, 0, 0, 1, 0, 0);
        due("sold", x.crossing(0, 1), 1);
    }
}
