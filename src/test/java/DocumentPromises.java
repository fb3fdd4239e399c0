/** The document's promises 1 to 19: the city, deeds. */
final class DocumentPromises {
    private final Check check;
    private final Document doc;

    DocumentPromises(Check check, Document doc) {
        this.check = check;
        this.doc = doc;
    }

    void follow() {
        newObject();
        feed();
        city();
        fault();
        person();
        street();
        crossing();
        price();
        why();
        go();
        judge();
        walk();
        buy();
        sell();
        hand();
        fog();
        hours();
        undo();
        week();
    }

    private void due(String call, long got, long want) {
        check.due(call, got, want);
    }

    private void newObject() {
        doc.promises(1, "A new object", "LeftTurns()");
        doc.says("No CROSSINGS, no PEOPLE.");
        LeftTurns x = new LeftTurns();
        for (int what = 0; what < 10; what++) {
            due("count(" + what + ")", x.count(what), 0);
        }
        due("no crossing", x.street(0, 0), -2);
        due("no person", x.person(0, 0), -8);
        due("nobody can go", x.go(0, 0), -11);
        due("none is cheapest", x.cheap(), -1);
    }

    private void feed() {
        doc.promises(2, "feed", "int feed(int a, int b, int c, int d, int e)");
        doc.says("Twenty bytes come behind those on THE TAPE, the highest of each int first: how many it has.");
        LeftTurns x = new LeftTurns();
        due("city 2 3;hour 11;", x.feed(0x63697479, 0x20322033, 0x3b686f75, 0x72203131, 0x3b202020), 20);
        due("hour 12; behind it", x.feed(0x686f7572, 0x2031323b, 0x21212121, 0x21212121, 0x21212121), 40);
        due("the text", x.city(28), 3);
        due("the bytes behind came last", x.count(3), 12);
        doc.says("-5: it would have more than 900.");
        for (int i = 1; i <= 45; i++) {
            due("feed " + i, x.feed(0x20202020, 0x20202020, 0x20202020, 0x20202020, 0x20202020), 20 * i);
        }
        due("feed 46", x.feed(0x21212121, 0, 0, 0, 0), -5);
        due("the tape stays", x.count(7), 900);
        due("its bytes stay", x.city(900), 0);
        due("then there is room", x.feed(0, 0, 0, 0, 0), 20);
    }

    private void city() {
        doc.promises(3, "city", "int city(int n)");
        doc.says("The first n bytes of THE TAPE (which is empty then) are THE CITY, nothing can be UNDONE: how many LINES");
        LeftTurns x = Check.city("city 3 3;person 0 0 east;price:9;may:1=2;free 1 1;wall 0 0 1;");
        x.hours(3);
        x.fog(0, 9);
        Check.feed(x, "city 2 2;hour 5;!!!!");
        due("lines", x.city(16), 2);
        due("the tape is empty", x.count(7), 0);
        due("nothing can be undone", x.count(6), 0);
        due("undo", x.undo(1), -3);
        due("wide", x.count(0), 2);
        due("nobody", x.count(2), 0);
        due("hours", x.count(3), 5);
        due("free", x.count(5), 0);
        due("the price", x.price(0, 0, 0), 1);
        due("no wall", x.street(0, 1), 1);
        Check.read(x, "city 2 2;person 0 0 south;hour 5;");
        due("no law: a left lacks, it is not forbidden", x.why(0, 2), 4);
        Check.feed(x, "hour 12;");
        due("the first 6 bytes", x.city(6), -32);
        due("end with 1", x.fault(1), 6);
        Check.feed(x, "hourly");
        due("the first 4 bytes", x.city(4), -32);
        due("end with hour", x.fault(1), 4);
        doc.says("(all stays with a FAULT).");
        Twins told = new Twins(check, y -> {
            Check.read(y, "city 3 3;person 1 1 east lefts 9 coins 9;price:9;hour 3;");
            y.go(0, 2);
            y.image(0);
            y.fog(2, 5);
        });
        told.leftAlone("a faulty text", y -> due("a faulty text", Check.read(y, "city 2 2;price:1;hour 9;!"), -31));
        doc.says("-3: n is below 0 or above what there is (THE TAPE stays);");
        Check.feed(x, "hour 7;");
        due("below 0", x.city(-1), -3);
        due("above", x.city(21), -3);
        due("the tape stays", x.count(7), 20);
        due("hours stay", x.count(3), 5);
        due("all of it", x.city(20), 1);
        due("not wide", x.count(0), 0);
        due("not high", x.count(1), 0);
        due("above none", x.city(1), -3);
        due("none", x.city(0), 0);
        doc.says("-30 less the FAULT.");
        due("1", Check.read(x, "!"), -31);
        due("2", Check.read(x, "hour"), -32);
        due("3", Check.read(x, "city 2 6;"), -33);
        due("4", Check.read(x, "price:(((((((1)))))));"), -34);
    }

    private void fault() {
        doc.promises(4, "fault", "int fault(int what)");
        doc.says("Of the latest city() that was read, what 0: its FAULT (0), 1: its place (NONE).");
        LeftTurns x = new LeftTurns();
        due("none was read", x.fault(0), 0);
        due("none was read", x.fault(1), -1);
        Check.read(x, "city 2 6;");
        due("a fault", x.fault(0), 3);
        due("its place", x.fault(1), 7);
        x.city(1);
        due("none was read", x.fault(0), 3);
        due("none was read", x.fault(1), 7);
        Check.read(x, "hour 1!");
        due("the latest", x.fault(0), 1);
        due("the latest", x.fault(1), 6);
        Check.read(x, "hour 1;");
        due("no fault", x.fault(0), 0);
        due("no place", x.fault(1), -1);
        doc.says("NONE for others.");
        due("what 2", x.fault(2), -1);
        due("what -1", x.fault(-1), -1);
    }

    private void person() {
        doc.promises(5, "person", "int person(int p, int what)");
        doc.says("Of a PERSON, what 0: its CROSSING, 1: where it HEADS, 2: LEFTS, 3: COINS, 4: USED ones.");
        LeftTurns x = Check.city("city 3 2;person 2 1 north lefts 7 coins 30;person 0 0 south;price:4;");
        check.person(x, 0, 5, 0, 7, 30, 0);
        check.person(x, 1, 0, 2, 0, 0, 0);
        x.go(0, 2);
        x.buy(0, 2);
        check.person(x, 0, 4, 3, 8, 22, 1);
        doc.says("-8: no such PERSON, what.");
        due("person 2", x.person(2, 0), -8);
        due("person -1", x.person(-1, 0), -8);
        due("what 5", x.person(0, 5), -8);
        due("what -1", x.person(0, -1), -8);
    }

    private void street() {
        doc.promises(6, "street", "int street(int c, int direction)");
        doc.says("The CROSSING to which a STREET goes from one in a direction.");
        LeftTurns x = Check.city("city 3 3;wall 0 0 1;");
        int[] beside = {1, 5, 7, 3};
        for (int d = 0; d < 4; d++) {
            due("street(4, " + d + ")", x.street(4, d), beside[d]);
        }
        doc.says("NONE: none;");
        due("over the edge", x.street(0, 0), -1);
        due("a wall", x.street(0, 1), -1);
        doc.says("-2: the CROSSING, the direction.");
        due("crossing 9", x.street(9, 0), -2);
        due("crossing -1", x.street(-1, 0), -2);
        due("direction 4", x.street(4, 4), -2);
        due("direction -1", x.street(4, -1), -2);
    }

    private void crossing() {
        doc.promises(7, "crossing", "int crossing(int c, int what)");
        doc.says("Of a CROSSING, what 0: PRICE now (head 0), 1: how many were sold, 2: 1 if it is FREE now, 3: HOURS of fog left, 4: how"
            + " many STREETS go from it; else 0.");
        LeftTurns x = Check.city("city 3 3;free 0 0;wall 1 1 0;person 1 1 west coins 999;price:5+hour+sold+100*head;hour 2;");
        x.buy(0, 2);
        x.fog(4, 3);
        int[] middle = {9, 2, 1, 3, 3};
        int[] corner = {7, 0, 1, 0, 2};
        int[] edge = {7, 0, 0, 0, 2};
        for (int what = 0; what < 5; what++) {
            due("crossing(4, " + what + ")", x.crossing(4, what), middle[what]);
            due("crossing(0, " + what + ")", x.crossing(0, what), corner[what]);
            due("crossing(1, " + what + ")", x.crossing(1, what), edge[what]);
        }
        x.hours(2);
        due("price now", x.crossing(4, 0), 11);
        due("free still", x.crossing(4, 2), 1);
        due("an hour of fog", x.crossing(4, 3), 1);
        x.hours(1);
        due("free no more", x.crossing(4, 2), 0);
        due("no hour of fog", x.crossing(4, 3), 0);
        doc.says("-2: the CROSSING, what.");
        due("crossing 9", x.crossing(9, 0), -2);
        due("crossing -1", x.crossing(-1, 0), -2);
        due("what 5", x.crossing(0, 5), -2);
        due("what -1", x.crossing(0, -1), -2);
    }

    private void price() {
        doc.promises(8, "price", "int price(int c, int direction, int n)");
        doc.says("PRICE of a LEFT at a CROSSING in n HOURS (0 to 999), for one that HEADS so.");
        LeftTurns x = Check.city("city 3 3;price:900*head+100*x+day;hour 20;");
        due("now", x.price(0, 0, 0), 0);
        due("at a crossing", x.price(5, 0, 0), 200);
        due("for one that heads so", x.price(5, 3, 0), 2900);
        due("in 3 hours", x.price(0, 0, 3), 0);
        due("in 4 hours", x.price(0, 0, 4), 1);
        due("in 999 hours", x.price(0, 0, 999), 42);
        doc.says("-2: the CROSSING, the direction; -3.");
        due("crossing 9", x.price(9, 0, 0), -2);
        due("crossing -1", x.price(-1, 0, 0), -2);
        due("direction 4", x.price(0, 4, 0), -2);
        due("direction -1", x.price(0, -1, 0), -2);
        due("n -1", x.price(0, 0, -1), -3);
        due("n 1000", x.price(0, 0, 1000), -3);
    }

    private void why() {
        doc.promises(9, "why", "int why(int p, int turn)");
        doc.says("Why a PERSON can't go by a TURN now (0: it can).");
        LeftTurns x = Check.city("city 2 2;person 0 1 north lefts 1;person 1 1 east;may:hour=1 or head=2;");
        due("straight on", x.why(0, 0), 0);
        due("right", x.why(0, 1), 0);
        due("no street", x.why(0, 2), 2);
        due("it may not now", x.why(1, 2), 3);
        due("no such person", x.why(2, 0), 1);
        due("no such turn", x.why(0, 4), 1);
        x.hours(1);
        due("it may now, and has no left", x.why(1, 2), 4);
        due("nothing has changed", x.count(6), 1);
    }

    private void go() {
        doc.promises(10, "go", "int go(int p, int turn)");
        doc.says("A PERSON goes by a TURN: its CROSSING then.");
        LeftTurns x = Check.city("city 2 2;person 0 1 north lefts 1;person 1 1 east;may:hour>0;");
        due("straight on", x.go(0, 0), 0);
        due("right", x.go(0, 1), 1);
        check.person(x, 0, 1, 1, 1, 0, 0);
        check.person(x, 1, 3, 1, 0, 0, 0);
        doc.says("-11 to -14.");
        due("no such person", x.go(2, 0), -11);
        due("no street", x.go(0, 0), -12);
        due("no lefts", x.go(1, 2), -14);
        due("it may not", Check.city("city 2 2;person 1 1 east;may:hour>0;").go(0, 2), -13);
        check.person(x, 0, 1, 1, 1, 0, 0);
    }

    private void judge() {
        doc.promises(11, "judge", "int judge(int tray, int what)");
        doc.says("A WALK, judged as if gone, what 0: the first place that can't be (NONE), 1: why (0), 2: the CROSSING then (NONE: no"
            + " such PERSON), 3: LEFTS taken.");
        LeftTurns x = Check.city("city 3 3;person 1 1 north lefts 3;may:hour<2;");
        Check.tray(x, 0, 0, 2, 3);
        check.judged(x, 0, -1, 0, 4, 3);
        Check.tray(x, 0, 0, 0, 2, 2, 0);
        check.judged(x, 0, 3, 3, 0, 1);
        Check.tray(x, 0, 0, 2, 3, 0, 0, 9);
        check.judged(x, 0, 4, 2, 5, 3);
        Check.tray(x, 0, 7, 0);
        check.judged(x, 0, 0, 1, -1, 0);
        Check.tray(x, 0, 0);
        check.judged(x, 0, -1, 0, 4, 0);
        check.person(x, 0, 4, 0, 3, 0, 0);
        due("no hour has gone by", x.count(3), 0);
        doc.says("-2: the TRAY, what; -6.");
        due("tray 4", x.judge(4, 0), -2);
        due("tray -1", x.judge(-1, 0), -2);
        due("what 4", x.judge(0, 4), -2);
        due("what -1", x.judge(0, -1), -2);
        due("missing", x.judge(1, 0), -6);
    }

    private void walk() {
        doc.promises(12, "walk", "int walk(int tray)");
        doc.says("It is gone, till one can't be: how many STREETS.");
        LeftTurns x = Check.city("city 3 3;person 1 1 north lefts 3;may:hour<2;");
        Check.tray(x, 0, 0, 0, 2, 2, 0);
        due("two streets", x.walk(0), 2);
        check.person(x, 0, 0, 3, 2, 0, 1);
        due("two hours", x.count(3), 2);
        Check.tray(x, 0, 0, 1);
        due("none", x.walk(0), 0);
        check.person(x, 0, 0, 3, 2, 0, 1);
        Check.tray(x, 0, 1, 1);
        due("nobody", x.walk(0), 0);
        doc.says("-2; -6.");
        due("tray 4", x.walk(4), -2);
        due("tray -1", x.walk(-1), -2);
        due("missing", x.walk(1), -6);
    }

    private void buy() {
        doc.promises(13, "buy", "int buy(int p, int n)");
        doc.says("A PERSON buys n LEFTS (1 to 20) where it is: what it paid.");
        LeftTurns x = Check.city("city 2 2;person 1 0 south coins 50;person 0 0 east lefts 79 coins 999;price:1+sold+x;");
        due("one", x.buy(0, 1), 2);
        due("two", x.buy(0, 2), 3 + 4);
        check.person(x, 0, 1, 2, 3, 41, 0);
        due("twenty", x.buy(1, 20), 210);
        check.person(x, 1, 0, 1, 99, 789, 0);
        doc.says("-2; -3; -5: it has not so many COINS; -4: it would have more than 99 LEFTS.");
        due("person 2", x.buy(2, 1), -2);
        due("person -1", x.buy(-1, 1), -2);
        due("none", x.buy(0, 0), -3);
        due("21", x.buy(0, 21), -3);
        due("too dear", x.buy(0, 7), -5);
        due("too many", x.buy(1, 1), -4);
        due("five", x.buy(0, 5), 5 + 6 + 7 + 8 + 9);
        due("coins", x.person(0, 3), 6);
    }

    private void sell() {
        doc.promises(14, "sell", "int sell(int p)");
        doc.says("All its USED ones are sold: what they cost together (COINS go up to 9,999 at most, the rest is lost).");
        LeftTurns x = Check.city("city 2 2;person 1 0 east lefts 9 coins 500;price:999*x;");
        x.go(0, 3);
        due("two at crossing 0, for nothing", x.sell(0), 0);
        due("none is left", x.person(0, 4), 0);
        x.go(0, 3);
        due("two at crossing 1", x.sell(0), 666);
        due("coins", x.person(0, 3), 1166);
        LeftTurns y = Check.city("city 2 2;person 1 0 east lefts 9 coins 1;price:999*15;");
        y.go(0, 3);
        due("two", y.sell(0), 9990);
        due("coins", y.person(0, 3), 9991);
        y.go(0, 3);
        due("what they cost", y.sell(0), 9990);
        due("the rest is lost", y.person(0, 3), 9999);
        doc.says("-2; -5: it has none.");
        due("person 1", x.sell(1), -2);
        due("person -1", x.sell(-1), -2);
        due("none", x.sell(0), -5);
    }

    private void hand() {
        doc.promises(15, "hand", "int hand(int p, int q, int n)");
        doc.says("n LEFTS (1 to 99) are handed over: how many the other one has then.");
        LeftTurns x = Check.city("city 2 2;person 0 0 east lefts 99;person 0 0 south;person 1 0 west;");
        due("one", x.hand(0, 1, 1), 1);
        due("back", x.hand(1, 0, 1), 99);
        due("99", x.hand(0, 1, 99), 99);
        due("none is left", x.person(0, 2), 0);
        doc.says("-2: no such PERSON, both one; -3: n; -5: not at the same CROSSING, not so many; -4: it would have more than 99.");
        due("person 3", x.hand(3, 0, 1), -2);
        due("person -1", x.hand(0, -1, 1), -2);
        due("both one", x.hand(1, 1, 1), -2);
        due("none", x.hand(1, 0, 0), -3);
        due("100", x.hand(1, 0, 100), -3);
        due("elsewhere", x.hand(1, 2, 1), -5);
        due("not so many", x.hand(0, 1, 1), -5);
        x.hand(1, 0, 1);
        due("98 and one", x.hand(0, 1, 1), 99);
        LeftTurns y = Check.city("city 2 2;person 0 0 east lefts 2;person 0 0 south lefts 98;");
        due("98 and two", y.hand(0, 1, 2), -4);
    }

    private void fog() {
        doc.promises(16, "fog", "int fog(int c, int n)");
        doc.says("FOG for n HOURS (1 to 99): how many CROSSINGS are FREE then.");
        LeftTurns x = Check.city("city 3 3;free 0 0;");
        due("one", x.fog(4, 1), 2);
        due("99", x.fog(8, 99), 3);
        due("a free one", x.fog(0, 5), 3);
        x.hours(1);
        due("one is gone", x.fog(0, 5), 2);
        doc.says("-2; -3.");
        due("crossing 9", x.fog(9, 1), -2);
        due("crossing -1", x.fog(-1, 1), -2);
        due("none", x.fog(0, 0), -3);
        due("100", x.fog(0, 100), -3);
    }

    private void hours() {
        doc.promises(17, "hours", "int hours(int n)");
        doc.says("n HOURS (1 to 99) go by: how many have gone by then.");
        LeftTurns x = Check.city("hour 7;");
        due("one", x.hours(1), 8);
        due("99", x.hours(99), 107);
        doc.says("-3.");
        due("none", x.hours(0), -3);
        due("100", x.hours(100), -3);
        due("below", x.hours(-1), -3);
    }

    private void undo() {
        doc.promises(18, "undo", "int undo(int n)");
        doc.says("n calls (1 to 10) are UNDONE: how many still can be.");
        LeftTurns x = new LeftTurns();
        for (int i = 1; i <= 10; i++) {
            x.hours(i);
        }
        due("one", x.undo(1), 9);
        due("hours", x.count(3), 45);
        due("three", x.undo(3), 6);
        due("hours", x.count(3), 21);
        doc.says("-3: n, more than can be.");
        due("none", x.undo(0), -3);
        due("below", x.undo(-1), -3);
        due("11", x.undo(11), -3);
        due("more than can be", x.undo(7), -3);
        due("as many as can be", x.undo(6), 0);
        due("hours", x.count(3), 0);
    }

    private void week() {
        doc.promises(19, "week", "int week(int seed, int times)");
        doc.says("A WEEK: how many could be (an HOUR always).");
        String text = "city 2 2;wall 0 0 1;wall 0 0 2;person 0 0 north;";
        LeftTurns x = Check.city(text);
        int hours = x.week(99, 60);
        due("nobody can go or buy: hours alone", x.count(3), hours);
        check.due("some hours", hours > 0 && hours < 60);
        due("by single calls", Check.weekByCalls(Check.city(text), 99, 60), hours);
        doc.says("-3: how many times; -5: no PEOPLE.");
        due("none", x.week(1, 0), -3);
        due("61", x.week(1, 61), -3);
        due("no people", Check.city("city 2 2;").week(1, 1), -5);
        due("times ahead of people", Check.city("city 2 2;").week(1, 61), -3);
    }
}
