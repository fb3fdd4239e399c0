/** The document's Terms up to "==== 2.": texts, their lines, laws, tokens and faults. */
final class DocumentTexts {
    private static final String[] HEADS = {"north", "east", "south", "west"};

    private final Check check;
    private final Document doc;

    DocumentTexts(Check check, Document doc) {
        this.check = check;
        this.doc = doc;
    }

    void follow() {
        wholeText();
        lines();
        heads();
        doc.passes("```text");
        truths();
        units();
        sums();
        atoms();
        sixWithinOneAnother();
        cityLine();
        crossingsByNumber();
        wallLine();
        freeLine();
        personLine();
        hourLine();
        laterOnes();
        tokens();
        faultsInOrder();
        kindsOfFaults();
        doc.passes("```");
    }

    private void due(String call, long got, long want) {
        check.due(call, got, want);
    }

    private void good(String text, int lines) {
        check.good(text, lines);
    }

    /** The mark ^ stands ahead of the token that is the fault. */
    private void fault(int kind, String marked) {
        check.faulty(marked.replace("^", ""), kind, marked.indexOf('^'));
    }

    private void wholeText() {
        doc.says("THE CITY is a TEXT of at most 900 bytes (without one: no CROSSINGS, no PEOPLE):");
        LeftTurns x = new LeftTurns();
        due("crossings without a text", x.count(0) * x.count(1), 0);
        due("crossing 0 without a text", x.crossing(0, 1), -2);
        due("people without a text", x.count(2), 0);
        due("person 0 without a text", x.person(0, 0), -8);
        String text = "city 2 2;" + " ".repeat(884) + "hour 7;";
        due("its bytes", text.length(), 900);
        due("a text of 900 bytes", Check.read(x, text), 2);
        due("is read to its end", x.count(3), 7);
        Check.feed(x, text);
        due("one byte more finds no room", x.feed(0x20202020, 0, 0, 0, 0), -5);
    }

    private void lines() {
        doc.says("{ LINE ; }");
        good("", 0);
        good(" \n ", 0);
        good("hour 1;", 1);
        good("hour 1; hour 2;\nhour 3;", 3);
        fault(2, "hour 1^");
        fault(2, "hour 1;^;");
        fault(2, "^;");
        fault(2, "hour 1 ^hour 2;");
        doc.says("LINE: city N N | wall N N N | free N N | person N N HEAD [ lefts N ] [ coins N ] | price : SUM | may : TRUTH"
            + " | hour N.");
        good("city 2 3;wall 0 0 1;free 1 2;person 0 1 north lefts 3 coins 4;person 0 1 south lefts 3;person 1 1 east coins 4;"
            + "person 1 1 west;price:1;may:1=1;hour 5;", 10);
        fault(2, "city 2^;");
        fault(2, "city 2 2 ^2;");
        fault(2, "city 2 2;wall 0 0^;");
        fault(2, "city 2 2;wall 0 0 0 ^0;");
        fault(2, "city 2 2;free 0^;");
        fault(2, "city 2 2;free 0 0 ^0;");
        fault(2, "city 2 2;person 0 ^north;");
        fault(2, "city 2 2;person 0 0^;");
        fault(2, "city 2 2;person 0 0 north ^3;");
        fault(2, "city 2 2;person 0 0 north lefts^;");
        fault(2, "city 2 2;person 0 0 north coins^;");
        fault(2, "city 2 2;person 0 0 north coins 1 ^lefts 1;");
        fault(2, "city 2 2;person 0 0 north lefts 1 ^lefts 1;");
        fault(2, "price ^1;");
        fault(2, "price:^;");
        fault(2, "price:1^=1;");
        fault(2, "may ^1=1;");
        fault(2, "may:^;");
        fault(2, "may:1^;");
        fault(2, "hour^;");
        fault(2, "hour^: 1;");
        fault(2, "^street 1;");
    }

    private void heads() {
        doc.says("HEAD: north | east | south | west.");
        for (int i = 0; i < 4; i++) {
            due(HEADS[i], Check.city("city 2 2;person 0 0 " + HEADS[i] + ";").person(0, 1), i);
        }
        fault(2, "city 2 2;person 0 0 ^up;");
        fault(2, "city 2 2;person 0 0 ^northwest;");
        fault(2, "city 2 2;person 0 0 ^0;");
    }

    /** South of crossing 0 a left goes east, where there is a street: it may be turned if the law holds. */
    private void holds(String truth, boolean does) {
        LeftTurns x = Check.city("city 2 2;person 0 0 south lefts 9;may:" + truth + ";");
        due(truth, x.why(0, 2), does ? 0 : 3);
    }

    private void truths() {
        doc.says("TRUTH: BOTH { or BOTH };");
        holds("1=2 or 1=1", true);
        holds("2<1 or 1>2 or 1=1", true);
        holds("1=1 or 1=2", true);
        holds("1=2 or 1=2 or 1=1", true);
        holds("1=2 or 1=2 or 1=2", false);
        holds("1=1 or 1=1 and 1=2", true);
        fault(2, "may:1=1 or^;");
        fault(2, "may:^or 1=1;");
        doc.says("BOTH: UNIT { and UNIT };");
        holds("1=1 and 1=1", true);
        holds("1=1 and 1<2 and 2>1 and not 1=2 and [1=1]", true);
        holds("1=1 and 1=2", false);
        holds("1=2 and 1=1", false);
        holds("1=1 and 1=1 and 1=2", false);
        holds("1=2 and 1=1 or 1=1", true);
        fault(2, "may:1=1 and^;");
        fault(2, "may:^and 1=1;");
    }

    private void units() {
        doc.says("UNIT: not UNIT, [ TRUTH ], or SUM, one of = < >, SUM.");
        holds("not 1=2", true);
        holds("not 1=1", false);
        holds("not not 1=1", true);
        holds("not 1=1 or 1=1", true);
        holds("not 1=2 and 1=2", false);
        holds("not [1=2 and 1=2]", true);
        holds("[1=1 or 1=1] and 1=2", false);
        holds("2=2", true);
        holds("1<2", true);
        holds("2<2", false);
        holds("3<2", false);
        holds("2>1", true);
        holds("2>2", false);
        holds("2>3", false);
        holds("1+2*3=3*2+1", true);
        fault(2, "may:not^;");
        fault(2, "may:[1=1^;");
        fault(2, "may:[^];");
        fault(2, "may:1=1^];");
        fault(2, "may:1=^;");
        fault(2, "may:1=1^=1;");
        fault(2, "may:1^:1;");
        fault(2, "may:(1^=1);");
        fault(2, "may:1=^not 1=1;");
    }

    private void costs(String sum, int cost) {
        due(sum, Check.city("city 2 2;price:" + sum + ";").price(0, 0, 0), cost);
    }

    private void sums() {
        doc.says("SUM: TERM { + TERM | - TERM };");
        costs("7-2-3", 2);
        costs("7-2+3", 8);
        costs("1+2+3+4", 10);
        costs("9-2*3", 3);
        fault(2, "price:1+^;");
        fault(2, "price:^+1;");
        fault(2, "price:^-1;");
        fault(2, "price:1 ^2;");
        doc.says("TERM: ATOM { * ATOM };");
        costs("2*3*4", 24);
        costs("1+2*3", 7);
        costs("2*3+1", 7);
        fault(2, "price:2*^;");
        fault(2, "price:^*2;");
        fault(2, "price:2*^*2;");
    }

    private void atoms() {
        doc.says("ATOM: N, x, y, hour, day, sold, head, ( SUM ).");
        String[] names = {"17", "x", "y", "hour", "day", "sold", "head", "(2+3)", "((4))"};
        int[] values = {17, 2, 1, 5, 3, 2, 3, 5, 4};
        for (int i = 0; i < names.length; i++) {
            LeftTurns x = Check.city("city 3 3;person 2 1 west lefts 9 coins 999;price:" + names[i] + ";hour 77;");
            x.buy(0, 2);
            due("price: " + names[i], x.price(5, 3, 0), values[i]);
        }
        costs("(1+2)*(5-(1+1))", 9);
        fault(2, "price:^z;");
        fault(2, "price:^xx;");
        fault(2, "price:^hours;");
        fault(2, "price:^lefts;");
        fault(2, "price:^not;");
        fault(2, "price:(1^;");
        fault(2, "price:(^);");
        fault(2, "price:^[1];");
    }

    private void sixWithinOneAnother() {
        doc.says("At most six of not [ ( within one another.");
        costs("((((((1))))))", 1);
        holds("not not not not not not 1=1", true);
        holds("[[[[[[1=1]]]]]]", true);
        holds("not[not[((1))=1]]", true);
        holds("[[[[[(1)=(1)]]]]]", true);
        costs("(1)+(1)+(1)+(1)+(1)+(1)+(1)", 7);
        fault(4, "price:((((((^(1)))))));");
        fault(4, "may:not not not not not not ^not 1=1;");
        fault(4, "may:[[[[[[^[1=1]]]]]]];");
        fault(4, "may:not[not[((^(1)))=1]];");
        fault(4, "may:[[[[[(1)=(^(1))]]]]];");
    }

    private void cityLine() {
        doc.says("city: WIDE, HIGH, 2 to 5 each, once, ahead of walls, free ones, people;");
        for (int wide = 2; wide <= 5; wide++) {
            for (int high = 2; high <= 5; high++) {
                LeftTurns x = Check.city("city " + wide + " " + high + ";");
                due("wide", x.count(0), wide);
                due("high", x.count(1), high);
                due("the last crossing", x.crossing(wide * high - 1, 1), 0);
                due("no crossing", x.crossing(wide * high, 1), -2);
            }
        }
        fault(3, "city ^1 2;");
        fault(3, "city ^6 2;");
        fault(3, "city 2 ^1;");
        fault(3, "city 2 ^6;");
        fault(2, "city 2 2;^city 2 2;");
        fault(2, "^wall 0 0 0;city 2 2;");
        fault(2, "^free 0 0;city 2 2;");
        fault(2, "^person 0 0 north;city 2 2;");
        good("price:1;may:1=1;hour 2;city 2 2;", 4);
    }

    private void crossingsByNumber() {
        doc.says("CROSSINGS by WIDE times y, and x, from 0 on (y grows to the south).");
        LeftTurns x = Check.city("city 4 3;person 0 0 north;person 2 1 north;person 3 2 north;");
        due("0 0", x.person(0, 0), 0);
        due("2 1", x.person(1, 0), 6);
        due("3 2", x.person(2, 0), 11);
        due("south of 6", x.street(6, 2), 10);
        due("north of 6", x.street(6, 0), 2);
    }

    private static int allStreets(LeftTurns x) {
        int sum = 0;
        for (int c = 0; c < x.count(0) * x.count(1); c++) {
            sum += x.crossing(c, 4);
        }
        return sum;
    }

    private void wallLine() {
        doc.says("wall: x, y of a CROSSING, a direction (0 north, 1 east, 2 south, 3 west): no street goes from it that way,"
            + " nor back.");
        int[] beside = {1, 5, 7, 3};
        for (int d = 0; d < 4; d++) {
            LeftTurns x = Check.city("city 3 3;wall 1 1 " + d + ";");
            due("from it", x.street(4, d), -1);
            due("nor back", x.street(beside[d], (d + 2) % 4), -1);
            due("all the others", allStreets(x), 22);
        }
        LeftTurns open = Check.city("city 3 2;");
        for (int c = 0; c < 6; c++) {
            for (int d = 0; d < 4; d++) {
                LeftTurns x = Check.city("city 3 2;wall " + c % 3 + " " + c / 3 + " " + d + ";");
                int next = open.street(c, d);
                due("from " + c, x.street(c, d), -1);
                due("nor back from " + next, next < 0 ? -1 : x.street(next, (d + 2) % 4), -1);
                due("all the others", allStreets(x), next < 0 ? 14 : 12);
            }
        }
        due("a wall at the edge", allStreets(Check.city("city 3 3;wall 0 0 0;wall 2 2 1;")), 24);
        fault(3, "city 3 2;wall ^3 0 0;");
        fault(3, "city 3 2;wall 0 ^2 0;");
        fault(3, "city 3 2;wall 0 0 ^4;");
    }

    private void freeLine() {
        doc.says("free: x, y.");
        LeftTurns x = Check.city("city 3 2;free 1 0;");
        for (int c = 0; c < 6; c++) {
            due("crossing(" + c + ", 2)", x.crossing(c, 2), c == 1 ? 1 : 0);
        }
        due("y", Check.city("city 3 2;free 0 1;").crossing(3, 2), 1);
        fault(3, "city 3 2;free ^3 0;");
        fault(3, "city 3 2;free 0 ^2;");
    }

    private void personLine() {
        doc.says("person: x, y, where it heads; LEFTS 0 to 99 (0), COINS 0 to 999 (0); numbered from 0 on, 5 at most.");
        String five = "city 3 2;person 2 1 west;person 0 0 north lefts 0 coins 0;person 1 0 south lefts 99 coins 999;"
            + "person 1 1 east lefts 7;person 0 1 east coins 8;";
        LeftTurns x = Check.city(five);
        check.person(x, 0, 5, 3, 0, 0, 0);
        check.person(x, 1, 0, 0, 0, 0, 0);
        check.person(x, 2, 1, 2, 99, 999, 0);
        check.person(x, 3, 4, 1, 7, 0, 0);
        check.person(x, 4, 3, 1, 0, 8, 0);
        due("people", x.count(2), 5);
        due("no sixth", x.person(5, 0), -8);
        fault(4, five + "^person 0 0 north;");
        fault(3, "city 3 2;person ^3 0 north;");
        fault(3, "city 3 2;person 0 ^2 north;");
        fault(3, "city 3 2;person 0 0 north lefts ^100;");
        fault(1, "city 3 2;person 0 0 north coins ^1000;");
    }

    private void hourLine() {
        doc.says("hour: the first one, 0 to 999 (0).");
        due("0", Check.city("hour 0;").count(3), 0);
        due("999", Check.city("hour 999;").count(3), 999);
        due("not told", Check.city("city 2 2;").count(3), 0);
        due("it is the first", Check.city("hour 999;").hours(1), 1000);
        fault(1, "hour ^1000;");
    }

    private void laterOnes() {
        doc.says("Later ones of price, may, hour count in place of earlier ones; walls, free ones told twice are as told once.");
        due("price", Check.city("city 2 2;price:5;price:7;").price(0, 0, 0), 7);
        due("may", Check.city("city 2 2;person 0 0 south lefts 9;may:1=1;may:1=2;").why(0, 2), 3);
        due("may", Check.city("city 2 2;person 0 0 south lefts 9;may:1=2;may:1=1;").why(0, 2), 0);
        due("hour", Check.city("hour 9;hour 4;").count(3), 4);
        due("hour", Check.city("hour 9;hour 0;").count(3), 0);
        LeftTurns x = Check.city("city 3 3;wall 1 1 1;wall 1 1 1;wall 2 1 3;free 0 0;free 0 0;");
        due("walls", allStreets(x), 22);
        due("free ones", x.count(5), 1);
        due("they are lines all the same", x.count(8), 6);
    }

    private void tokens() {
        doc.says("TOKENS, as long as they go on, between them blanks (10, 32): words (small letters), N (1 to 3 digits), the signs"
            + " ; : + - * ( ) [ ] = < >.");
        good("\n hour\n\n  5 ;\n", 1);
        good("city2 3;person0 1west lefts3coins4;", 2);
        due("digits go on", Check.city("hour 123;").count(3), 123);
        due("noughts ahead", Check.city("hour 007;").count(3), 7);
        fault(2, "^hours 1;");
        fault(2, "^ho ur 1;");
        fault(2, "hour 1 ^2;");
        String known = "abcdefghijklmnopqrstuvwxyz0123456789;:+-*()[]=<>";
        for (char c = 0; c < 256; c++) {
            if (c == 10 || c == 32) {
                good("hour 1;" + c, 1);
            } else {
                check.faulty("hour 1;" + c, known.indexOf(c) >= 0 ? 2 : 1, 7);
            }
        }
    }

    private void faultsInOrder() {
        doc.says("FAULTS, the first along the text, of one TOKEN the least kind:");
        fault(3, "city 2 ^9;!");
        fault(2, "city 2 2 ^3!");
        fault(4, "price:((((((^(z)))))));!");
        fault(1, "city 2 2;^!city 9 9;");
        fault(1, "city ^2222 9;");
        fault(1, "^1234;");
        fault(2, "city 2 2 ^9;");
        fault(2, "price:((((((^[1]))))));");
        fault(2, "may:[[[[[[1=^not 1=1]]]]]];");
        fault(2, "city 2 2;" + "person 0 0 north;".repeat(5) + "hour ^person;");
    }

    private void kindsOfFaults() {
        doc.says("1 no TOKEN begins so (4 digits and more: at their first).");
        fault(1, "^!");
        fault(1, "^Hour 1;");
        fault(1, "hour^\t1;");
        fault(1, "price:1^/2;");
        fault(1, "hour ^1000;");
        fault(1, "hour ^0001;");
        fault(1, "hour ^12345678901234567890;");
        doc.says("2 it can't stand there (the end: the text's length; city for the second time, a wall, a free one, a person ahead"
            + " of it: at its first TOKEN).");
        fault(2, "hour^");
        fault(2, "hour 1^");
        fault(2, "hour 1 \n ^");
        fault(2, "city 2 2; ^city 9 9;");
        fault(2, "^wall 9 9 9;");
        fault(2, "hour 1; ^free 9 9;");
        fault(2, "^person 9 9 up;");
        doc.says("3 an N out of its bounds.");
        fault(3, "city ^0 2;");
        fault(3, "city 2 ^999;");
        fault(3, "city 2 2;wall ^2 0 0;");
        fault(3, "city 2 2;wall 0 0 ^4;");
        fault(3, "city 2 2;person 0 0 north lefts ^999;");
        doc.says("4 the first TOKEN of a 6th person; a seventh of not [ (.");
        fault(4, "city 2 2;" + "person 0 0 north;".repeat(5) + "^person 9 9;");
        fault(4, "may:[[[[[[ ^not 1=1;");
        fault(4, "may:not not not not not not ^[");
        fault(4, "may:not[not[not[^(");
    }
}
