/** Promises 10 to 19: deeds. */
public final class DeedsTest {
    private static final Check CHECK = new Check("DeedsTest");

    public static void main(String[] args) {
        going();
        goingByLaw();
        usedOnesAreBounded();
        judging();
        judgingWrongOnes();
        walking();
        buying();
        selling();
        sellingIsBounded();
        handing();
        fogs();
        hoursGoBy();
        undoing();
        undoingIsBounded();
        whatCanBeUndone();
        weeks();
        weekByHand();
        CHECK.end();
    }

    private static void due(String call, long got, long want) {
        CHECK.due(call, got, want);
    }

    private static void going() {
        LeftTurns x = Check.city("city 3 3; person 1 1 north lefts 4 coins 7; free 2 1; hour 22;");
        due("straight", x.go(0, 0), 1);
        CHECK.person(x, 0, 1, 0, 4, 7, 0);
        due("an hour has gone by", x.count(3), 23);
        due("no street", x.go(0, 0), -12);
        due("a refused one takes no hour", x.count(3), 23);
        due("nor can it be undone", x.count(6), 1);
        due("right", x.go(0, 1), 2);
        CHECK.person(x, 0, 2, 1, 4, 7, 0);
        due("right", x.go(0, 1), 5);
        due("back at a free one", x.go(0, 3), 2);
        CHECK.person(x, 0, 2, 0, 4, 7, 0);
        due("left", x.go(0, 2), 1);
        CHECK.person(x, 0, 1, 3, 3, 7, 1);
        due("back", x.go(0, 3), 2);
        CHECK.person(x, 0, 2, 1, 1, 7, 3);
        due("back with one", x.go(0, 3), -14);
        due("no such person", x.go(1, 0), -11);
        due("no such person", x.go(-1, 0), -11);
        due("no such turn", x.go(0, 4), -11);
        due("no such turn", x.go(0, -1), -11);
    }

    private static void goingByLaw() {
        LeftTurns x = Check.city("city 3 3; person 1 1 north lefts 9; free 0 0; may: hour = 3 and head = 3 or x = 0 and head > 0;");
        due("not in this hour", x.go(0, 2), -13);
        x.hours(3);
        due("back goes another way", x.go(0, 3), -13);
        due("left in its hour", x.go(0, 2), 3);
        due("right is always allowed", x.go(0, 1), 0);
        due("straight has no street", x.go(0, 0), -12);
        due("back at a free one by its law", x.go(0, 3), 3);
        due("left by the new direction", x.go(0, 2), 4);
    }

    private static void usedOnesAreBounded() {
        // A person goes back and forth between two crossings, with lefts for nothing to be had, until 999 are used.
        LeftTurns x = Check.city("city 2 2; person 0 0 east lefts 99; price: 0;");
        Check.tray(x, 0, 0, 0, 3, 3, 3, 3, 3, 3, 3, 3, 3);
        x.walk(0);
        due("eighteen used", x.person(0, 4), 18);
        Check.tray(x, 0, 0, 3, 3, 3, 3, 3, 3, 3, 3, 3, 3);
        for (int i = 0; i < 49; i++) {
            x.buy(0, 18);
            due("ten streets", x.walk(0), 10);
            x.buy(0, 2);
        }
        due("998 used", x.person(0, 4), 18 + 49 * 20);
        due("back", x.go(0, 3) >= 0 ? 1 : 0, 1);
        due("999 used, one is lost", x.person(0, 4), 999);
        due("back", x.go(0, 3) >= 0 ? 1 : 0, 1);
        due("999 used, two are lost", x.person(0, 4), 999);
    }

    private static void judging() {
        LeftTurns x = Check.city("city 3 3; person 1 1 north lefts 1; person 0 2 east lefts 9; may: hour < 4;");
        Check.tray(x, 0, 0, 0, 2);
        CHECK.judged(x, 0, -1, 0, 0, 1);
        Check.tray(x, 1, 0, 0, 0, 2);
        CHECK.judged(x, 1, 2, 2, 1, 0);
        Check.tray(x, 2, 0, 0, 3);
        CHECK.judged(x, 2, 2, 4, 1, 0);
        Check.tray(x, 3, 1, 0, 2, 3, 3, 3);
        CHECK.judged(x, 3, 5, 3, 4, 5);
        due("nothing has changed", x.count(3), 0);
        due("nobody has gone", x.person(1, 0), 6);
        due("no lefts are gone", x.count(9), 10);
        due("nothing can be undone", x.count(6), 0);
        x.hours(3);
        CHECK.judged(x, 3, 2, 3, 7, 0);
    }

    private static void judgingWrongOnes() {
        LeftTurns x = Check.city("city 3 3; person 1 1 north lefts 1;");
        due("missing", x.judge(0, 0), -6);
        due("no such tray", x.judge(4, 0), -2);
        due("no such tray", x.judge(-1, 0), -2);
        due("what, ahead of the missing tray", x.judge(0, 4), -2);
        due("what", x.judge(0, -1), -2);
        x.numbers(0, 0, 0);
        CHECK.judged(x, 0, 0, 1, -1, 0);
        Check.tray(x, 0, 1);
        CHECK.judged(x, 0, 0, 1, -1, 0);
        Check.tray(x, 0, -1, 0);
        CHECK.judged(x, 0, 0, 1, -1, 0);
        Check.tray(x, 0, 0);
        CHECK.judged(x, 0, -1, 0, 4, 0);
        Check.tray(x, 0, 0, 0, 4);
        CHECK.judged(x, 0, 2, 1, 1, 0);
        Check.tray(x, 0, 0, 1, -1);
        CHECK.judged(x, 0, 2, 1, 5, 0);
        Check.tray(x, 0, 1L << 32);
        CHECK.judged(x, 0, 0, 1, -1, 0);
        Check.tray(x, 0, 0, 1L << 32);
        CHECK.judged(x, 0, 1, 1, 4, 0);
    }

    private static void walking() {
        LeftTurns x = Check.city("city 3 3; person 1 1 north lefts 1;");
        due("missing", x.walk(0), -6);
        due("no such tray", x.walk(4), -2);
        due("no such tray", x.walk(-1), -2);
        x.numbers(0, 0, 0);
        due("an empty one", x.walk(0), 0);
        Check.tray(x, 0, 0);
        due("without turns", x.walk(0), 0);
        Check.tray(x, 0, 0, 2, 0);
        due("till one can't be", x.walk(0), 1);
        CHECK.person(x, 0, 3, 3, 0, 0, 1);
        due("an hour", x.count(3), 1);
        due("it can be undone as a whole", x.count(6), 1);
        Check.tray(x, 0, 0, 1, 1, 1);
        due("all", x.walk(0), 3);
        due("two can be undone", x.count(6), 2);
        Check.tray(x, 0, 0, 2, 1);
        due("none", x.walk(0), 0);
        due("none is kept", x.count(6), 2);
        due("undone", x.undo(1), 1);
        CHECK.person(x, 0, 3, 3, 0, 0, 1);
        due("undone", x.undo(1), 0);
        CHECK.person(x, 0, 4, 0, 1, 0, 0);
        due("hours are back", x.count(3), 0);
    }

    private static void buying() {
        LeftTurns x = Check.city("city 2 2; person 0 0 south lefts 79 coins 100; price: 3 + sold*2 + head; person 1 0 south lefts 80 coins 999;");
        due("three, each dearer", x.buy(0, 3), 5 + 7 + 9);
        CHECK.person(x, 0, 0, 2, 82, 79, 0);
        due("sold there", x.crossing(0, 1), 3);
        due("sold in all", x.count(4), 3);
        due("price now", x.crossing(0, 0), 9);
        due("too dear", x.buy(0, 6), -5);
        due("one fewer", x.buy(0, 5), 11 + 13 + 15 + 17 + 19);
        due("n", x.buy(0, 0), -3);
        due("n", x.buy(0, 21), -3);
        due("nobody, ahead of n", x.buy(2, 0), -2);
        due("nobody", x.buy(-1, 1), -2);
        due("too many", x.buy(1, 20), -4);
        due("as many as can be", x.buy(1, 19), 19 * 5 + 18 * 19);
        due("lefts", x.person(1, 2), 99);
        due("one more", x.buy(1, 1), -4);
        due("too dear ahead of too many", Check.city("city 2 2; person 0 0 east lefts 99;").buy(0, 1), -5);
        due("for nothing", Check.city("city 2 2; person 0 0 east; price: 0;").buy(0, 20), 0);
    }

    private static void selling() {
        LeftTurns x = Check.city("city 2 2; person 0 0 east lefts 5 coins 3; price: 7 + head * 2 + sold; person 0 0 east;");
        due("none used", x.sell(0), -5);
        due("nobody", x.sell(2), -2);
        due("nobody", x.sell(-1), -2);
        x.go(0, 0);
        x.go(0, 3);
        x.go(0, 3);
        CHECK.person(x, 0, 1, 1, 1, 3, 4);
        due("four for a third each, cut", x.sell(0), 4 * 3);
        CHECK.person(x, 0, 1, 1, 1, 15, 0);
        due("sold stays", x.count(4), 0);
        due("none left to sell", x.sell(0), -5);
        due("undone", x.undo(1), 3);
        CHECK.person(x, 0, 1, 1, 1, 3, 4);
        x.buy(0, 0);
        x.hours(1);
        due("head counts", x.price(1, 0, 0) / 3, 2);
        LeftTurns y = Check.city("city 2 2; person 0 0 east lefts 5; price: 2;");
        y.go(0, 0);
        y.go(0, 3);
        due("a third of two is nothing", y.sell(0), 0);
        due("but they are sold", y.person(0, 4), 0);
        due("it can be undone", y.count(6), 3);
    }

    private static void sellingIsBounded() {
        LeftTurns x = Check.city("city 2 2; person 0 0 east lefts 50 coins 999; price: 999 * 10;");
        x.go(0, 0);
        x.go(0, 3);
        x.go(0, 3);
        due("what they cost", x.sell(0), 4 * 3330);
        due("coins are bounded", x.person(0, 3), 9999);
        LeftTurns y = Check.city("city 2 2; person 0 0 east lefts 50 coins 9; price: 999 * 10;");
        y.go(0, 0);
        y.go(0, 3);
        y.sell(0);
        due("coins below the bound", y.person(0, 3), 6669);
        due("coins beyond 999 buy", y.buy(0, 1), -5);
    }

    private static void handing() {
        LeftTurns x = Check.city("city 2 2; person 0 0 south lefts 9; person 0 0 east lefts 95; person 1 0 east lefts 3;");
        due("four", x.hand(0, 1, 4), 99);
        due("the giver's", x.person(0, 2), 5);
        due("one more", x.hand(0, 1, 1), -4);
        due("not so many, ahead of too many", x.hand(0, 1, 6), -5);
        due("elsewhere", x.hand(0, 2, 1), -5);
        due("n", x.hand(0, 1, 0), -3);
        due("n ahead of elsewhere", x.hand(0, 2, 100), -3);
        due("both one, ahead of n", x.hand(0, 0, 0), -2);
        due("nobody", x.hand(3, 0, 1), -2);
        due("nobody", x.hand(0, 3, 1), -2);
        due("nobody", x.hand(-1, 0, 1), -2);
        due("nobody", x.hand(0, -1, 1), -2);
        due("all", x.hand(1, 0, 94), 99);
        LeftTurns y = Check.city("city 2 2; person 0 0 south lefts 99; person 0 0 east;");
        due("99", y.hand(0, 1, 99), 99);
        due("both can be undone", x.undo(2), 0);
        due("the giver's", x.person(0, 2), 9);
        due("the other's", x.person(1, 2), 95);
        due("lefts of all", x.count(9), 107);
    }

    private static void fogs() {
        LeftTurns x = Check.city("city 3 3; free 1 1; person 0 0 south; hour 7;");
        due("two free", x.fog(0, 2), 2);
        due("free already", x.fog(4, 2), 2);
        due("three", x.fog(8, 99), 3);
        due("hours left", x.crossing(8, 3), 99);
        due("a later one strikes", x.fog(8, 1), 3);
        due("hours left", x.crossing(8, 3), 1);
        x.hours(1);
        due("it is over", x.count(5), 2);
        due("free in its last hour", x.why(0, 2), 0);
        x.hours(1);
        due("free now", x.count(5), 1);
        due("and behind it", x.why(0, 2), 4);
        due("n", x.fog(0, 0), -3);
        due("n", x.fog(0, 100), -3);
        due("no crossing, ahead of n", x.fog(9, 0), -2);
        due("no crossing", x.fog(-1, 1), -2);
        due("undone", x.undo(3), 3);
        due("hours left", x.crossing(8, 3), 99);
    }

    private static void hoursGoBy() {
        LeftTurns x = new LeftTurns();
        due("without a city", x.hours(99), 99);
        due("one", x.hours(1), 100);
        due("n", x.hours(0), -3);
        due("n", x.hours(100), -3);
        due("count", x.count(3), 100);
    }

    private static void undoing() {
        LeftTurns x = Check.city("city 2 2; person 0 0 east lefts 5 coins 9; person 0 0 south;");
        x.buy(0, 2);
        x.hand(0, 1, 3);
        x.fog(3, 4);
        x.go(0, 0);
        x.hours(2);
        due("five can be", x.count(6), 5);
        due("more than can be", x.undo(6), -3);
        due("n", x.undo(0), -3);
        due("n", x.undo(-1), -3);
        due("n", x.undo(11), -3);
        due("two", x.undo(2), 3);
        due("hours", x.count(3), 0);
        due("where it was", x.person(0, 0), 0);
        due("the fog is there", x.count(5), 1);
        due("one", x.undo(1), 2);
        due("the fog is gone", x.count(5), 0);
        due("one", x.undo(1), 1);
        due("lefts are back", x.person(1, 2), 0);
        due("sold", x.count(4), 2);
        due("one", x.undo(1), 0);
        due("sold", x.count(4), 0);
        CHECK.person(x, 0, 0, 1, 5, 9, 0);
        due("none", x.undo(1), -3);
    }

    private static void undoingIsBounded() {
        LeftTurns x = new LeftTurns();
        for (int i = 0; i < 25; i++) {
            x.hours(1);
            due("at most ten", x.count(6), Math.min(10, i + 1));
        }
        due("eleven", x.undo(11), -3);
        due("three", x.undo(3), 7);
        due("hours", x.count(3), 22);
        x.hours(50);
        due("eight", x.undo(8), 0);
        due("the eldest are forgotten", x.count(3), 15);
    }

    private static void whatCanBeUndone() {
        LeftTurns x = Check.city("city 2 2; person 0 0 north lefts 5 coins 9; free 1 1; price: 0;");
        x.go(0, 0);
        x.buy(0, 21);
        x.sell(0);
        x.hand(0, 1, 1);
        x.fog(9, 1);
        x.hours(0);
        x.undo(1);
        x.walk(0);
        x.week(1, 0);
        due("refused ones can't", x.count(6), 0);
        x.fog(3, 1);
        x.fog(3, 1);
        due("even if all is as it was", x.count(6), 2);
        x.numbers(0, 0, 4);
        x.write(0, 0, 1);
        x.image(0);
        x.lists(0, 0, 3, 9);
        due("trays and images can't", x.count(6), 2);
        x.undo(2);
        x.restore(0);
        due("the tray has the way still", x.judge(0, 0), 3);
    }

    private static void weeks() {
        LeftTurns x = new LeftTurns();
        due("no people", x.week(1, 60), -5);
        due("times, ahead of people", x.week(1, 0), -3);
        due("times", x.week(1, 61), -3);
        x = Check.city("city 2 2; person 0 0 north;");
        int could = x.week(7, 60);
        due("some could be", could > 0 && could < 60 ? 1 : 0, 1);
        due("it is undone as a whole", x.undo(1), 0);
        CHECK.person(x, 0, 0, 0, 0, 0, 0);
        due("hours", x.count(3), 0);
    }

    private static void weekByHand() {
        int seed = 5;
        LeftTurns x = Check.city("city 3 3; person 1 1 north lefts 3 coins 4; person 0 0 south coins 2;");
        LeftTurns y = Check.city("city 3 3; person 1 1 north lefts 3 coins 4; person 0 0 south coins 2;");
        int could = Check.weekByCalls(y, seed, 40);
        due("week", x.week(seed, 40), could);
        for (int p = 0; p < 2; p++) {
            for (int what = 0; what < 5; what++) {
                due("person after a week", x.person(p, what), y.person(p, what));
            }
        }
        due("hours after a week", x.count(3), y.count(3));
        due("sold after a week", x.count(4), y.count(4));
        LeftTurns full = Check.city("city 2 2; person 0 0 north lefts 99; price: 0;");
        full.week(1, 60);
        due("nobody buys a hundredth", full.person(0, 2) <= 99 ? 1 : 0, 1);
        due("nobody buys where one has 99", Check.city("city 2 2; person 0 0 north lefts 99; price: 0;").week(Check.seedOf(2), 1), 0);
        due("one buys who has 98", Check.city("city 2 2; person 0 0 north lefts 98; price: 0;").week(Check.seedOf(2), 1), 1);
        // Seed 0: the first draw is 12345 >>> 16 = 0, the second 3554416254 >>> 16 = 54236, the third 2802067423 >>> 16 = 42756.
        LeftTurns z = Check.city("city 3 3; person 1 1 north;");
        due("person 0 goes by turn 0", z.week(0, 1), 1);
        due("straight", z.person(0, 0), 1);
        LeftTurns n = Check.city("city 3 3; person 1 0 north;");
        due("it can't", n.week(0, 1), 0);
        due("nothing is kept", n.count(6), 0);
    }
}
