/** The document's Terms from "==== 2." to "==== 3.": streets, turns, laws, buying and selling, fogs, walks, undoing. */
final class DocumentDeeds {
    private static final String[] HEADS = {"north", "east", "south", "west"};
    /** Where the turns lead, clockwise: straight on, right, left, back. */
    private static final int[] CLOCKWISE = {0, 1, 3, 2};
    /** What lies north, east, south, west of crossing 4 of 3 by 3. */
    private static final int[] BESIDE_4 = {1, 5, 7, 3};

    private final Check check;
    private final Document doc;

    DocumentDeeds(Check check, Document doc) {
        this.check = check;
        this.doc = doc;
    }

    void follow() {
        doc.passes("==== 2.");
        streets();
        turns();
        lefts();
        streetsTakeHours();
        doc.passes("```text");
        placesInLaws();
        hoursInLaws();
        soldInLaws();
        headsInLaws();
        keptSums();
        prices();
        freeOnes();
        buying();
        usedOnes();
        selling();
        handing();
        fogs();
        walks();
        whyNot();
        undoing();
        undoneAsAWhole();
        doc.passes("```");
    }

    private void due(String call, long got, long want) {
        check.due(call, got, want);
    }

    private void streets() {
        doc.says("A STREET goes from a CROSSING to the next one in each direction, but over the edge, and where a wall is.");
        LeftTurns x = Check.city("city 4 3;wall 1 1 1;");
        int[] stepX = {0, 1, 0, -1};
        int[] stepY = {-1, 0, 1, 0};
        for (int c = 0; c < 12; c++) {
            for (int d = 0; d < 4; d++) {
                int toX = c % 4 + stepX[d];
                int toY = c / 4 + stepY[d];
                boolean edge = toX < 0 || toX > 3 || toY < 0 || toY > 2;
                boolean wall = c == 5 && d == 1 || c == 6 && d == 3;
                due("street(" + c + ", " + d + ")", x.street(c, d), edge || wall ? -1 : 4 * toY + toX);
            }
        }
    }

    private void turns() {
        doc.says("TURNS: 0 straight on, 1 right, 2 left, 3 back: a PERSON at a CROSSING turns, and goes a STREET that way; it HEADS"
            + " there then.");
        for (int h = 0; h < 4; h++) {
            for (int turn = 0; turn < 4; turn++) {
                LeftTurns x = Check.city("city 3 3;person 1 1 " + HEADS[h] + " lefts 2;");
                int d = (h + CLOCKWISE[turn]) % 4;
                due("go by " + turn + ", heading " + h, x.go(0, turn), BESIDE_4[d]);
                due("it is there", x.person(0, 0), BESIDE_4[d]);
                due("it heads there", x.person(0, 1), d);
            }
        }
    }

    private void lefts() {
        doc.says("A left takes one LEFT, back two, but at a FREE CROSSING none; both only if the law may holds (without one:"
            + " always).");
        int[] taken = {0, 0, 1, 2};
        for (int turn = 0; turn < 4; turn++) {
            LeftTurns x = Check.city("city 3 3;person 1 1 north lefts 5;");
            x.go(0, turn);
            due("lefts after turn " + turn, x.person(0, 2), 5 - taken[turn]);
            LeftTurns free = Check.city("city 3 3;free 1 1;person 1 1 north lefts 5;");
            free.go(0, turn);
            due("lefts after turn " + turn + " at a free one", free.person(0, 2), 5);
            due("turn " + turn + " by no law", Check.city("city 3 3;person 1 1 north lefts 5;may:1=2;").why(0, turn), turn < 2 ? 0 : 3);
            due("turn " + turn + " by no law at a free one",
                Check.city("city 3 3;free 1 1;person 1 1 north lefts 5;may:1=2;").why(0, turn), turn < 2 ? 0 : 3);
            due("turn " + turn + " by the law", Check.city("city 3 3;person 1 1 north lefts 5;may:1=1;").why(0, turn), 0);
            due("turn " + turn + " without a law", Check.city("city 3 3;person 1 1 north lefts 5;").why(0, turn), 0);
            due("turn " + turn + " at a free one without lefts",
                Check.city("city 3 3;free 1 1;person 1 1 north;").why(0, turn), 0);
        }
    }

    private void streetsTakeHours() {
        doc.says("Each STREET takes an HOUR.");
        LeftTurns x = Check.city("city 3 3;person 1 1 north lefts 9;hour 5;");
        int[] turns = {1, 1, 3, 2};
        for (int i = 0; i < turns.length; i++) {
            x.go(0, turns[i]);
            due("hours after " + (i + 1) + " streets", x.count(3), 6 + i);
        }
    }

    /** Whether person 0 of 3 by 3, with lefts enough, may turn left. */
    private void may(String person, String law, boolean may) {
        LeftTurns x = Check.city("city 3 3;person " + person + " lefts 9 coins 9;may:" + law + ";hour 30;");
        due(person + ", may " + law, x.why(0, 2), may ? 0 : 3);
    }

    private void placesInLaws() {
        doc.says("In both laws, of the CROSSING at which one turns: x, y,");
        may("1 2 north", "x=1 and y=2", true);
        may("1 2 north", "x=0", false);
        may("2 1 north", "x=1 and y=2", false);
        LeftTurns x = Check.city("city 3 3;price:10*x+y;");
        for (int c = 0; c < 9; c++) {
            due("price of crossing " + c, x.price(c, 0, 0), 10 * (c % 3) + c / 3);
        }
    }

    private void hoursInLaws() {
        doc.says("hour: HOURS gone by modulo 24, day: HOURS gone by / 24,");
        may("1 2 north", "hour=6 and day=1", true);
        may("1 2 north", "hour=30 or day=0 or day=30", false);
        LeftTurns x = Check.city("city 3 3;price:100*day+hour;hour 47;");
        due("the hour 47", x.price(0, 0, 0), 123);
        x.hours(1);
        due("the hour 48", x.price(0, 0, 0), 200);
    }

    private void soldInLaws() {
        doc.says("sold: how many LEFTS were bought there,");
        LeftTurns x = Check.city("city 3 3;person 1 1 north lefts 9 coins 99;person 1 2 north lefts 9;price:5+sold;may:sold=2;");
        due("none was bought", x.why(0, 2), 3);
        x.buy(0, 2);
        due("two were bought", x.why(0, 2), 0);
        due("none elsewhere", x.why(1, 2), 3);
        due("price there", x.price(4, 0, 0), 7);
        due("price elsewhere", x.price(7, 0, 0), 5);
    }

    private void headsInLaws() {
        doc.says("head: the direction one goes in then (for a price: in which the PERSON HEADS; 0 where nobody is told);");
        for (int h = 0; h < 4; h++) {
            for (int d = 0; d < 4; d++) {
                LeftTurns x = Check.city("city 3 3;person 1 1 " + HEADS[h] + " lefts 9;may:head=" + d + ";");
                due("left, heading " + h + ", of head=" + d, x.why(0, 2), (h + 3) % 4 == d ? 0 : 3);
                due("back, heading " + h + ", of head=" + d, x.why(0, 3), (h + 2) % 4 == d ? 0 : 3);
            }
            LeftTurns y = Check.city("city 3 3;person 1 1 " + HEADS[h] + " coins 9;price:1+head;");
            due("price for one that heads " + h, y.price(4, h, 0), 1 + h);
            due("bought by one that heads " + h, y.buy(0, 1), 1 + h);
            due("nobody is told", y.crossing(4, 0), 1);
        }
    }

    private void keptSums() {
        doc.says("each + - * kept from -1,000,000 to 1,000,000.");
        int square = 999 * 999;
        String[] sums = {"999*999", "999*999*999", "999*999+999+999+999-999*999", "0-999*999-999-999-999+999*999+999*3",
            "(0-999)*999*999+999*999+999*3"};
        int[] values = {square, 1000000, 1000000 - square, -1000000 + square + 2997, -1000000 + square + 2997};
        for (int i = 0; i < sums.length; i++) {
            due(sums[i], Check.city("city 2 2;price:" + sums[i] + ";").price(0, 0, 0), values[i]);
        }
        may("1 2 north", "999*999*999=999*999*998", true);
        may("1 2 north", "0-999*999*999=(0-999)*999*999", true);
    }

    private void prices() {
        doc.says("PRICE of a LEFT: by the law, 0 at least (without one: 1).");
        due("by the law", Check.city("city 2 2;price:7;").crossing(0, 0), 7);
        due("0", Check.city("city 2 2;price:7-7;").crossing(0, 0), 0);
        due("0 at least", Check.city("city 2 2;price:7-8;").crossing(0, 0), 0);
        due("without one", Check.city("city 2 2;").crossing(0, 0), 1);
    }

    private void freeOnes() {
        doc.says("FREE are told ones, and those in fog.");
        LeftTurns x = Check.city("city 3 2;free 1 1;person 0 0 east;");
        x.fog(2, 3);
        for (int c = 0; c < 6; c++) {
            due("crossing(" + c + ", 2)", x.crossing(c, 2), c == 2 || c == 4 ? 1 : 0);
        }
    }

    private void buying() {
        doc.says("To BUY: each LEFT at its PRICE, then sold is one more.");
        LeftTurns x = Check.city("city 2 2;person 0 0 east coins 99;price:3+sold*sold;");
        due("three", x.buy(0, 3), 3 + 4 + 7);
        due("sold", x.crossing(0, 1), 3);
        check.person(x, 0, 0, 1, 3, 85, 0);
        due("one more", x.buy(0, 1), 12);
    }

    private void usedOnes() {
        doc.says("LEFTS that were used make USED ones (of a PERSON, 999 at most, more are lost):");
        LeftTurns x = Check.city("city 3 3;person 1 1 north lefts 9;person 1 1 north lefts 9;free 0 1;");
        x.go(0, 2);
        due("a left", x.person(0, 4), 1);
        x.go(0, 3);
        due("back at a free one", x.person(0, 4), 1);
        x.go(0, 3);
        due("back", x.person(0, 4), 3);
        x.go(0, 1);
        due("right", x.person(0, 4), 3);
        due("the other one's", x.person(1, 4), 0);
        LeftTurns y = Check.city("city 2 2;person 1 0 east lefts 99;price:0;");
        y.numbers(0, 0, 40);
        for (int i = 1; i < 40; i++) {
            y.write(0, i, 3);
        }
        for (int i = 1; i <= 14; i++) {
            due("39 streets back", y.walk(0), 39);
            due("used, walk " + i, y.person(0, 4), Math.min(999, 78 * i));
            while (y.affords(0) > 0) {
                y.buy(0, Math.min(20, y.affords(0)));
            }
        }
    }

    private void selling() {
        doc.says("each can be SOLD for a third of PRICE (cut) where the PERSON is, HEADING as it does; sold stays.");
        LeftTurns x = Check.city("city 3 3;person 1 1 north lefts 9 coins 1;person 0 1 west coins 99;price:8+head+100*x-3*sold;");
        x.go(0, 2);
        x.go(0, 3);
        x.go(0, 3);
        due("five at crossing 3, heading west: a third of 11", x.sell(0), 5 * 3);
        check.person(x, 0, 3, 3, 4, 16, 0);
        due("sold", x.crossing(3, 1), 0);
        due("sold in all", x.count(4), 0);
        x.undo(1);
        x.buy(1, 1);
        due("where one was sold: a third of 8", x.sell(0), 5 * 2);
        due("sold stays", x.crossing(3, 1), 1);
    }

    private void handing() {
        doc.says("To HAND OVER: LEFTS of a PERSON to another one at the same CROSSING.");
        LeftTurns x = Check.city("city 2 2;person 0 0 east lefts 9 coins 1;person 0 0 south lefts 2;person 1 0 east lefts 5;");
        due("three", x.hand(0, 1, 3), 5);
        check.person(x, 0, 0, 1, 6, 1, 0);
        check.person(x, 1, 0, 2, 5, 0, 0);
        due("at another crossing", x.hand(0, 2, 1), -5);
    }

    private void fogs() {
        doc.says("FOG at a CROSSING for n HOURS from now: it is FREE in these (a later one strikes).");
        LeftTurns x = Check.city("city 3 3;person 1 1 north;hour 40;");
        x.fog(4, 3);
        for (int i = 0; i < 5; i++) {
            due("free " + i + " hours on", x.crossing(4, 2), i < 3 ? 1 : 0);
            due("a left " + i + " hours on", x.why(0, 2), i < 3 ? 0 : 4);
            x.hours(1);
        }
        x.fog(4, 50);
        x.fog(4, 1);
        x.hours(1);
        due("the later one was shorter", x.crossing(4, 2), 0);
        x.fog(4, 1);
        x.fog(4, 2);
        x.hours(1);
        due("the later one was longer", x.crossing(4, 2), 1);
    }

    private void walks() {
        doc.says("A WALK in a TRAY: the PERSON, then TURNS, each gone in turn.");
        LeftTurns x = Check.city("city 3 3;person 0 0 south;person 1 1 north lefts 3;");
        Check.tray(x, 2, 1, 0, 2, 2, 2);
        check.judged(x, 2, -1, 0, 4, 3);
        due("walk", x.walk(2), 4);
        check.person(x, 1, 4, 1, 0, 0, 3);
        check.person(x, 0, 0, 2, 0, 0, 0);
    }

    private void judged(LeftTurns x, long place, long why, long... walk) {
        Check.tray(x, 0, walk);
        due("the place", x.judge(0, 0), place);
        due("why", x.judge(0, 1), why);
    }

    private void whyNot() {
        doc.says("Why not: 1 no such PERSON (at place 0; also without one), TURN; 2 there is no STREET; 3 it may not turn so; 4 it has"
            + " not so many LEFTS.");
        LeftTurns x = Check.city("city 3 3;person 1 1 north lefts 1;may:not head=2;");
        judged(x, 0, 1, 1, 0);
        judged(x, 0, 1, -1, 0);
        judged(x, 0, 1);
        due("without a person no street is gone", x.walk(0), 0);
        judged(x, 0, 1, 1L << 32, 0);
        judged(x, 1, 1, 0, 1L << 32);
        judged(x, 2, 1, 0, 0, 4);
        judged(x, 1, 1, 0, -1);
        judged(x, 2, 2, 0, 0, 0);
        judged(x, 1, 3, 0, 3);
        judged(x, 2, 4, 0, 1, 3);
        judged(x, -1, 0, 0, 2);
        due("the person and the turn ahead of the street", x.why(1, 3), 1);
        due("no person -1", x.why(-1, 0), 1);
        due("no turn -1", x.why(0, -1), 1);
        LeftTurns y = Check.city("city 2 2;person 0 0 north;may:1=2;");
        due("the street ahead of the law", y.why(0, 2), 2);
        due("the law ahead of lefts", y.why(0, 3), 3);
        due("lefts", Check.city("city 2 2;person 0 0 north;").why(0, 3), 4);
        due("one left for back", Check.city("city 2 2;person 0 0 north lefts 1;").why(0, 3), 4);
        due("two lefts for back", Check.city("city 2 2;person 0 0 north lefts 2;").why(0, 3), 0);
    }

    private void undoing() {
        doc.says("Calls of go(), buy(), sell(), hand(), fog(), hours() that aren't refused (even if all is as it was),");
        LeftTurns x = Check.city("city 2 2;person 0 0 east lefts 9 coins 9;person 0 0 east;price:2;hour 3;");
        long[] answers = {x.hand(0, 1, 2), x.go(0, 0), x.go(0, 3), x.buy(0, 1), x.sell(0), x.fog(2, 4), x.fog(2, 4), x.hours(1)};
        for (int i = 0; i < answers.length; i++) {
            due("call " + i + " wasn't refused", answers[i] >= 0);
        }
        due("so many can be undone", x.count(6), answers.length);
        long[] refused = {x.hand(0, 1, 0), x.go(0, 9), x.buy(0, 21), x.sell(0), x.fog(9, 4), x.hours(0)};
        for (int i = 0; i < refused.length; i++) {
            due("call " + i + " was refused", refused[i] < 0);
        }
        due("refused ones can't be", x.count(6), answers.length);
        doc.says("of walk(), week() that did one thing at least,");
        Check.tray(x, 0, 1, 0, 0);
        due("a walk of one street", x.walk(0), 1);
        due("a walk of none", x.walk(0), 0);
        due("one more can be undone", x.count(6), answers.length + 1);
        due("a week of one hour", Check.city("city 2 2;person 0 0 north;").week(Check.seedOf(3), 1), 1);
        LeftTurns y = Check.city("city 2 2;person 0 0 north;");
        y.week(Check.seedOf(3), 1);
        due("can be undone", y.count(6), 1);
        due("a week of nothing", y.week(0, 1), 0);
        due("can't be", y.count(6), 1);
    }

    private void due(String call, boolean got) {
        check.due(call, got);
    }

    private void undoneAsAWhole() {
        doc.says("can be UNDONE each as a whole, the latest first, 10 at most (eldest are forgotten): PEOPLE, what was sold, fogs,"
            + " HOURS.");
        LeftTurns x = Check.city("city 3 3;person 1 1 north lefts 9 coins 9;person 0 0 south coins 3;hour 3;");
        Check.tray(x, 0, 0, 2, 3, 0, 1);
        due("a walk of four streets", x.walk(0), 4);
        x.fog(8, 5);
        x.buy(1, 3);
        due("the buying is undone first", x.undo(1), 2);
        due("nothing is sold", x.crossing(0, 1), 0);
        check.person(x, 1, 0, 2, 0, 3, 0);
        due("the fog is there", x.crossing(8, 3), 5);
        due("the fog is undone", x.undo(1), 1);
        due("no fog", x.crossing(8, 3), 0);
        due("hours after the walk", x.count(3), 7);
        due("the walk is undone as a whole", x.undo(1), 0);
        check.person(x, 0, 4, 0, 9, 9, 0);
        due("hours", x.count(3), 3);
        x.go(0, 1);
        x.week(77, 60);
        due("a street and a week", x.count(6), 2);
        due("the week is undone as a whole", x.undo(1), 1);
        check.person(x, 0, 5, 1, 9, 9, 0);
        due("hours", x.count(3), 4);
        due("then the street", x.undo(1), 0);
        check.person(x, 0, 4, 0, 9, 9, 0);
        check.person(x, 1, 0, 2, 0, 3, 0);
        due("hours", x.count(3), 3);
        due("sold", x.count(4), 0);
        for (int i = 1; i <= 13; i++) {
            x.hours(i);
            due("ten at most", x.count(6), Math.min(10, i));
        }
        due("all ten", x.undo(10), 0);
        due("the first three are forgotten", x.count(3), 3 + 1 + 2 + 3);
    }
}
