/** The document's promises 20 to 42: ways, errands, dealings, envelopes and chases, trays and images. */
final class DocumentMorePromises {
    private static final String OPEN = "city 3 3;person 1 1 north;";
    /** Along the upper edge to the west: from 1 to 0, and on only by lefts. */
    private static final String NARROW = "city 2 2;person 1 0 west;";
    /** Round the edge to the left, with nothing within: 2 1 0, 3 6, 7 8, 5. */
    private static final String RING = "city 3 3;person 2 0 west;wall 1 1 0;wall 1 1 1;wall 1 1 2;wall 1 1 3;wall 2 0 2;";
    /** Nobody comes to crossing 3. */
    private static final String CLOSED = "city 2 2;person 1 0 west;wall 1 1 0;wall 1 1 3;";

    private final Check check;
    private final Document doc;

    DocumentMorePromises(Check check, Document doc) {
        this.check = check;
        this.doc = doc;
    }

    void follow() {
        way();
        turn();
        fewest();
        cheapest();
        ways();
        reach();
        enough();
        byRights();
        round();
        makeFree();
        bestCorner();
        dealing();
        cheap();
        affords();
        found();
        chase();
        posts();
        numbers();
        write();
        lists();
        image();
        restore();
        count();
    }

    private void due(String call, long got, long want) {
        check.due(call, got, want);
    }

    private void way() {
        doc.promises(20, "way", "int way(int p, int c, int k)");
        doc.says("A WAY with k LEFTS (0 to 120) to a CROSSING: how many STREETS.");
        LeftTurns x = Check.city(OPEN);
        due("where it is", x.way(0, 4, 0), 0);
        due("by rights", x.way(0, 3, 0), 5);
        due("with one", x.way(0, 3, 1), 1);
        due("with 120", x.way(0, 3, 120), 1);
        doc.says("NONE: none; -2: the PERSON, the CROSSING; -3.");
        due("none with so few", Check.city(NARROW).way(0, 3, 0), -1);
        due("none at all", Check.city(CLOSED).way(0, 3, 120), -1);
        due("person 1", x.way(1, 4, 0), -2);
        due("person -1", x.way(-1, 4, 0), -2);
        due("crossing 9", x.way(0, 9, 0), -2);
        due("crossing -1", x.way(0, -1, 0), -2);
        due("k -1", x.way(0, 4, -1), -3);
        due("k 121", x.way(0, 4, 121), -3);
    }

    private void turn() {
        doc.promises(21, "turn", "int turn(int p, int c, int k, int i)");
        doc.says("Its i-th TURN (from 0 on).");
        LeftTurns x = Check.city(OPEN);
        int[] turns = {0, 1, 1, 1, 0};
        for (int i = 0; i < turns.length; i++) {
            due("turn " + i + " to 3 by rights", x.turn(0, 3, 0, i), turns[i]);
        }
        due("the left", x.turn(0, 3, 1, 0), 2);
        doc.says("NONE: there is none, not so many; -2; -3: k, i below 0.");
        due("there is none", Check.city(CLOSED).turn(0, 3, 120, 0), -1);
        due("not so many", x.turn(0, 3, 0, 5), -1);
        due("not so many", x.turn(0, 4, 0, 0), -1);
        due("person 1", x.turn(1, 4, 0, 0), -2);
        due("crossing 9", x.turn(0, 9, 0, 0), -2);
        due("k -1", x.turn(0, 3, -1, 0), -3);
        due("k 121", x.turn(0, 3, 121, 0), -3);
        due("i -1", x.turn(0, 3, 0, -1), -3);
    }

    private void fewest() {
        doc.promises(22, "fewest", "int fewest(int p, int c, int n)");
        doc.says("FEWEST within n STREETS (0 to 60).");
        LeftTurns x = Check.city(OPEN);
        due("within none, where it is", x.fewest(0, 4, 0), 0);
        due("within one", x.fewest(0, 7, 1), 2);
        due("within two", x.fewest(0, 7, 2), 2);
        due("within three", x.fewest(0, 7, 3), 0);
        due("within 60", x.fewest(0, 7, 60), 0);
        doc.says("NONE: no way; -2; -3.");
        due("within none", x.fewest(0, 7, 0), -1);
        due("none at all", Check.city(CLOSED).fewest(0, 3, 60), -1);
        due("person 1", x.fewest(1, 4, 0), -2);
        due("crossing 9", x.fewest(0, 9, 0), -2);
        due("n -1", x.fewest(0, 4, -1), -3);
        due("n 61", x.fewest(0, 4, 61), -3);
    }

    private void cheapest() {
        doc.promises(23, "cheapest", "int cheapest(int p, int c, int n)");
        doc.says("CHEAPEST within n STREETS (0 to 60).");
        LeftTurns x = Check.city(OPEN + "price:4+head;");
        due("within none, where it is", x.cheapest(0, 4, 0), 0);
        due("within one, back, going south", x.cheapest(0, 7, 1), 12);
        due("within three", x.cheapest(0, 7, 3), 0);
        due("within 60", x.cheapest(0, 7, 60), 0);
        doc.says("NONE: no way; -2; -3.");
        due("within none", x.cheapest(0, 7, 0), -1);
        due("none at all", Check.city(CLOSED).cheapest(0, 3, 60), -1);
        due("person 1", x.cheapest(1, 4, 0), -2);
        due("crossing 9", x.cheapest(0, 9, 0), -2);
        due("n -1", x.cheapest(0, 4, -1), -3);
        due("n 61", x.cheapest(0, 4, 61), -3);
    }

    private void ways() {
        doc.promises(24, "ways", "long ways(int p, int c, int n, int k)");
        doc.says("How many ways of just n STREETS (0 to 20) that take k LEFTS (0 to 40) at most go to a CROSSING.");
        for (String text : AllWalks.allCities()) {
            AllWalks all = new AllWalks(text, 5);
            LeftTurns x = Check.city(text);
            for (int c = 0; c < 6; c++) {
                for (int n = 0; n <= 5; n++) {
                    for (int k = 0; k <= 4; k++) {
                        due("ways to " + c + " of " + n + " with " + k, x.ways(0, c, n, k), all.count(c, n, k));
                    }
                    due("ways to " + c + " of " + n + " with 40", x.ways(0, c, n, 40), all.count(c, n, 40));
                }
            }
        }
        LeftTurns y = Check.city(OPEN);
        due("all of twenty", y.ways(0, 4, 20, 40), 1L << 29);
        due("but one that takes 40", y.ways(0, 4, 20, 39), (1L << 29) - 1);
        doc.says("-2; -3.");
        due("person 1", y.ways(1, 4, 0, 0), -2);
        due("crossing 9", y.ways(0, 9, 0, 0), -2);
        due("n -1", y.ways(0, 4, -1, 0), -3);
        due("n 21", y.ways(0, 4, 21, 0), -3);
        due("k -1", y.ways(0, 4, 0, -1), -3);
        due("k 41", y.ways(0, 4, 0, 41), -3);
    }

    private void reach() {
        doc.promises(25, "reach", "int reach(int p, int k)");
        doc.says("CROSSINGS to which a PERSON comes within 60 STREETS with k LEFTS (0 to 120) or fewer, as bits.");
        for (String text : AllWalks.allCities()) {
            LeftTurns x = Check.city(text);
            for (int k : new int[] {0, 1, 2, 3, 120}) {
                int bits = 0;
                for (int c = 0; c < x.count(0) * x.count(1); c++) {
                    bits |= x.way(0, c, k) >= 0 ? 1 << c : 0;
                }
                due("reach with " + k, x.reach(0, k), bits);
            }
        }
        due("none", Check.city(NARROW).reach(0, 0), 3);
        due("one", Check.city(NARROW).reach(0, 1), 15);
        due("in 60 streets", Check.city(Gate.open(59)).reach(0, 120), 1 + 2 + 8 + 16 + 32);
        due("in 61 streets", Check.city(Gate.open(60)).reach(0, 120), 1 + 2 + 8 + 16);
        doc.says("-2; -3.");
        due("person 1", Check.city(NARROW).reach(1, 0), -2);
        due("k -1", Check.city(NARROW).reach(0, -1), -3);
        due("k 121", Check.city(NARROW).reach(0, 121), -3);
    }

    private void enough() {
        doc.promises(26, "enough", "int enough(int p)");
        doc.says("The least k with which a PERSON comes within 60 STREETS to all CROSSINGS to which it comes in these at all.");
        for (String text : AllWalks.allCities()) {
            LeftTurns x = Check.city(text);
            int least = 0;
            while (x.reach(0, least) != x.reach(0, 120)) {
                least++;
            }
            due("enough", x.enough(0), least);
        }
        due("none", Check.city(OPEN).enough(0), 0);
        due("one", Check.city(NARROW).enough(0), 1);
        due("one, though nobody comes to 3", Check.city(CLOSED).enough(0), 1);
        due("as many as any needs", Check.city(Gate.dearest()).enough(0), 119);
        doc.says("-2.");
        due("person 1", Check.city(NARROW).enough(1), -2);
        due("person -1", Check.city(NARROW).enough(-1), -2);
    }

    private void byRights() {
        doc.promises(27, "byRights", "int byRights(int c, int direction)");
        doc.says("From a CROSSING, HEADING so, the fewest STREETS (60 at most) by straight on and right alone to the CROSSING to which a left"
            + " goes, HEADING any way.");
        LeftTurns x = Check.city("city 3 3;may:1=2;");
        for (int d = 0; d < 4; d++) {
            due("from the middle, heading " + d, x.byRights(4, d), 5);
        }
        due("from an edge, heading south", x.byRights(1, 2), 5);
        due("to crossing 0", x.byRights(1, 0), 5);
        due("no law matters, nor who is where", Check.city("city 3 3;free 1 1;person 1 1 north;").byRights(4, 0), 5);
        doc.says("NONE: by none, no STREET goes left;");
        due("by none", Check.city("city 2 2;").byRights(3, 0), -1);
        due("over the edge", x.byRights(0, 0), -1);
        due("a wall", Check.city("city 3 3;wall 1 1 3;").byRights(4, 0), -1);
        doc.says("-2: the CROSSING, the direction.");
        due("crossing 9", x.byRights(9, 0), -2);
        due("crossing -1", x.byRights(-1, 0), -2);
        due("direction 4", x.byRights(0, 4), -2);
        due("direction -1", x.byRights(0, -1), -2);
    }

    private void round() {
        doc.promises(28, "round", "int round(int p, int tray, int what)");
        doc.says("ROUND, what 0: LEFTS together, 1: STREETS together, 10 + k: the k-th CROSSING (NONE: not so many).");
        LeftTurns x = Check.city(OPEN);
        Check.tray(x, 0, 5, 2, 1);
        int[] order = {1, 2, 5};
        due("lefts", x.round(0, 0, 0), 0);
        due("streets", x.round(0, 0, 1), 3);
        for (int k = 0; k < 3; k++) {
            due("crossing " + k, x.round(0, 0, 10 + k), order[k]);
        }
        due("not so many", x.round(0, 0, 13), -1);
        due("not so many", x.round(0, 0, Integer.MAX_VALUE), -1);
        LeftTurns y = Check.city(NARROW);
        Check.tray(y, 0, 3, 0);
        due("lefts of two", y.round(0, 0, 0), 1);
        due("streets of two", y.round(0, 0, 1), 3);
        due("first", y.round(0, 0, 10), 3);
        due("then", y.round(0, 0, 11), 0);
        Check.tray(y, 0, 3, 3);
        due("lefts of another one", y.round(0, 0, 0), 1);
        due("streets of another one", y.round(0, 0, 1), 1);
        Check.tray(y, 0, 2, 1);
        due("lefts of a longer one", y.round(0, 0, 0), 1);
        due("streets of a longer one", y.round(0, 0, 1), 2);
        doc.says("NONE: no order can be; -2: the PERSON, the TRAY, what; -6; -4: not 1 to 4 numbers; -3: one is no CROSSING.");
        LeftTurns z = Check.city(CLOSED);
        Check.tray(z, 0, 0, 3);
        due("no order", z.round(0, 0, 0), -1);
        due("no order", z.round(0, 0, 10), -1);
        due("person 1", x.round(1, 0, 0), -2);
        due("tray 4", x.round(0, 4, 0), -2);
        for (int what : new int[] {-1, 2, 9, Integer.MIN_VALUE}) {
            due("what " + what, x.round(0, 0, what), -2);
        }
        due("missing", x.round(0, 1, 0), -6);
        Check.tray(x, 0);
        due("no numbers", x.round(0, 0, 0), -4);
        Check.tray(x, 0, 9, 9, 9, 9, 9);
        due("five numbers", x.round(0, 0, 0), -4);
        Check.tray(x, 0, 0, 9);
        due("no crossing", x.round(0, 0, 0), -3);
        Check.tray(x, 0, -1);
        due("no crossing", x.round(0, 0, 0), -3);
    }

    private void makeFree() {
        doc.promises(29, "makeFree", "int makeFree(int p, int c, int n, int what)");
        doc.says("MADE FREE within n STREETS (0 to 20), what 0: how many, 1: which, as bits.");
        LeftTurns x = Check.city("city 3 3;person 1 1 north lefts 9;");
        freed(x, 4, 0, 0);
        freed(x, 3, 20, 0);
        freed(x, 3, 2, 1 << 4);
        freed(x, 3, 4, 1 << 1);
        freed(x, 0, 2, 1 << 1);
        LeftTurns y = Check.city("city 3 2;person 2 0 west;");
        freed(y, 3, 3, 1 << 0);
        freed(y, 4, 3, 1 << 1);
        freed(y, 4, 20, 1 << 0);
        freed(y, 5, 1, 1 << 2);
        freed(Check.city(RING), 8, 6, 1 << 0 | 1 << 6);
        freed(Check.city(RING), 8, 20, 1 << 0 | 1 << 6);
        doc.says("NONE: not by two; -2: the PERSON, the CROSSING, what; -3.");
        due("by none at all", Check.city(CLOSED).makeFree(0, 3, 20, 0), -1);
        due("three lefts are taken", Check.city(RING).fewest(0, 5, 20), 3);
        due("by three, not by two", Check.city(RING).makeFree(0, 5, 20, 0), -1);
        due("within none", x.makeFree(0, 3, 0, 1), -1);
        due("person 1", x.makeFree(1, 4, 0, 0), -2);
        due("crossing 9", x.makeFree(0, 9, 0, 0), -2);
        due("what 2", x.makeFree(0, 4, 0, 2), -2);
        due("what -1", x.makeFree(0, 4, 0, -1), -2);
        due("n -1", x.makeFree(0, 4, -1, 0), -3);
        due("n 21", x.makeFree(0, 4, 21, 0), -3);
    }

    private void freed(LeftTurns x, int c, int n, int bits) {
        due("how many to " + c + " within " + n, x.makeFree(0, c, n, 0), Integer.bitCount(bits));
        due("which to " + c + " within " + n, x.makeFree(0, c, n, 1), bits);
    }

    private void bestCorner() {
        doc.promises(30, "bestCorner", "int bestCorner(int p, int c, int n)");
        doc.says("The CROSSING by which, made FREE, FEWEST within n STREETS (0 to 30) is lowered most, the first.");
        for (String text : AllWalks.allCities()) {
            bestCorners(text, 4);
        }
        due("now or never", Check.city("city 2 2;person 1 0 west;may:hour=0;").bestCorner(0, 3, 1), 1);
        due("the first of two by which one left is saved", Check.city(RING).bestCorner(0, 8, 6), 0);
        due("the first of three", Check.city(RING).bestCorner(0, 5, 30), 0);
        due("back, two lefts at one crossing", Check.city(OPEN).bestCorner(0, 7, 1), 4);
        doc.says("NONE: by none, there is no way; -2; -3.");
        LeftTurns x = Check.city(OPEN);
        due("by none", x.bestCorner(0, 7, 30), -1);
        due("there is no way", x.bestCorner(0, 7, 0), -1);
        due("person 1", x.bestCorner(1, 4, 0), -2);
        due("crossing 9", x.bestCorner(0, 9, 0), -2);
        due("n -1", x.bestCorner(0, 4, -1), -3);
        due("n 31", x.bestCorner(0, 4, 31), -3);
    }

    /** A crossing is made free by telling the city so. */
    private void bestCorners(String text, int n) {
        LeftTurns x = Check.city(text);
        int wide = x.count(0);
        int size = wide * x.count(1);
        for (int c = 0; c < size; c++) {
            int least = x.fewest(0, c, n);
            int best = -1;
            for (int corner = 0; corner < size && least >= 0; corner++) {
                int then = Check.city(text + "free " + corner % wide + " " + corner / wide + ";").fewest(0, c, n);
                if (then < least) {
                    least = then;
                    best = corner;
                }
            }
            due("the best corner to " + c, x.bestCorner(0, c, n), best);
        }
    }

    private void dealing() {
        doc.promises(31, "dealing", "int dealing(int c, int direction, int what)");
        doc.says("DEALING for one that HEADS so, what 0: the most gained (0: nothing), 1: when to buy, 2: when to sell (HOURS from now;"
            + " NONE: nothing is gained).");
        LeftTurns x = Check.city("city 2 2;price:(30-hour)*(3-head)+head*hour*x;hour 22;");
        long[][] wants = {{69, 1, 2}, {46, 1, 2}, {23, 1, 2}, {0, -1, -1}};
        for (int d = 0; d < 4; d++) {
            for (int what = 0; what < 3; what++) {
                due("dealing(0, " + d + ", " + what + ")", x.dealing(0, d, what), wants[d][what]);
            }
        }
        due("at another crossing", x.dealing(1, 3, 0), 63);
        due("when to buy there", x.dealing(1, 3, 1), 2);
        due("when to sell there", x.dealing(1, 3, 2), 23);
        doc.says("-2: the CROSSING, the direction, what.");
        due("crossing 4", x.dealing(4, 0, 0), -2);
        due("direction 4", x.dealing(0, 4, 0), -2);
        due("what 3", x.dealing(0, 0, 3), -2);
        due("what -1", x.dealing(0, 0, -1), -2);
    }

    private void cheap() {
        doc.promises(32, "cheap", "int cheap()");
        doc.says("The CROSSING with the lowest PRICE now (head 0), the first.");
        due("the lowest", Check.city("city 3 3;price:20-x-3*y;").cheap(), 8);
        due("the first", Check.city("city 3 3;price:20-3*y;").cheap(), 6);
        due("head 0", Check.city("city 2 2;person 1 0 east;price:9+head*(1-x)-y*head;").cheap(), 0);
        LeftTurns x = Check.city("city 2 2;person 0 0 east coins 9;price:3+sold+x*hour;");
        due("now", x.cheap(), 0);
        x.buy(0, 1);
        due("one was sold at 0", x.cheap(), 1);
        x.hours(1);
        due("an hour later", x.cheap(), 2);
        doc.says("NONE: none.");
        due("no crossings", new LeftTurns().cheap(), -1);
        due("no crossings", Check.city("price:3;").cheap(), -1);
    }

    private void affords() {
        doc.promises(33, "affords", "int affords(int p)");
        doc.says("How many LEFTS a PERSON could buy now where it is (99 at most together).");
        String[] people = {"coins 0", "coins 7", "coins 8", "coins 999", "lefts 98 coins 999", "lefts 99 coins 999"};
        for (String person : people) {
            String text = "city 2 2;person 1 0 south " + person + ";price:1+sold+head+x;";
            LeftTurns x = Check.city(text);
            int many = 0;
            while (x.buy(0, 1) >= 0) {
                many++;
            }
            due("affords, " + person, Check.city(text).affords(0), many);
        }
        due("for nothing", Check.city("city 2 2;person 1 0 south lefts 9;price:0;").affords(0), 90);
        due("all 99", Check.city("city 2 2;person 1 0 south coins 99;").affords(0), 99);
        doc.says("-2.");
        due("person 0", Check.city("city 2 2;").affords(0), -2);
        due("person -1", Check.city("city 2 2;").affords(-1), -2);
    }

    private void found() {
        doc.promises(34, "found", "int found(int p, int tray, int n)");
        doc.says("FOUND in n STREETS (0 to 30), as bits.");
        LeftTurns x = Check.city(NARROW);
        Check.tray(x, 0);
        due("no envelopes in none", x.found(0, 0, 0), 1 << 1);
        due("no envelopes in one", x.found(0, 0, 1), 1 << 0);
        due("no envelopes in two", x.found(0, 0, 2), 0);
        Check.tray(x, 0, 0);
        due("one at 0 in two", x.found(0, 0, 2), 1 << 2);
        Check.tray(x, 0, 0, 0);
        due("two at 0 in two", x.found(0, 0, 2), 1 << 1);
        LeftTurns y = Check.city(OPEN);
        Check.tray(y, 0);
        due("none in 30", y.found(0, 0, 30), 1 + 4 + 16 + 64 + 256);
        doc.says("-2: the PERSON, the TRAY; -6; -4: more than 10 numbers; -3: one is no CROSSING, n.");
        due("person 1", x.found(1, 0, 0), -2);
        due("tray 4", x.found(0, 4, 0), -2);
        due("tray -1", x.found(0, -1, 0), -2);
        due("missing", x.found(0, 1, 0), -6);
        Check.tray(x, 0, new long[11]);
        due("eleven", x.found(0, 0, 0), -4);
        Check.tray(x, 0, new long[10]);
        due("ten", x.found(0, 0, 0), 0);
        Check.tray(x, 0, 4);
        due("no crossing", x.found(0, 0, 0), -3);
        Check.tray(x, 0, 0);
        due("n -1", x.found(0, 0, -1), -3);
        due("n 31", x.found(0, 0, 31), -3);
    }

    private void chase() {
        doc.promises(35, "chase", "int chase(int thief, int thiefHeads, int watch, int watchHeads)");
        doc.says("CHASE: in how many goings of the watch (0 to 30) it surely CATCHES, whatever the thief does.");
        LeftTurns x = Check.city("city 2 2;");
        due("not at all", x.chase(3, 1, 0, 3), -1);
        due("none", x.chase(2, 2, 2, 0), 0);
        due("one", x.chase(2, 2, 3, 3), 1);
        due("two", x.chase(2, 2, 1, 2), 2);
        due("the thief would be caught at once at 1, not at 2", x.chase(0, 1, 1, 2), 2);
        LeftTurns wide = Check.city("city 5 5;");
        due("along the edge to a corner", wide.chase(24, 1, 20, 1), 4);
        due("down the edge to a corner", wide.chase(24, 1, 4, 2), 4);
        due("along two edges", wide.chase(24, 1, 0, 1), 8);
        due("at the other end one is too late", wide.chase(24, 1, 0, 3), -1);
        due("as many as can be", longestChase("city 4 5;wall 0 3 1;"), 30);
        Check.read(x, "city 2 2;wall 0 1 1;");
        due("in another city", x.chase(2, 2, 3, 3), -1);
        doc.says("NONE: not surely by then; -2: the CROSSINGS, the directions.");
        due("never", x.chase(2, 2, 1, 0), -1);
        due("not surely: he may go to 2", Check.city("city 2 2;").chase(0, 1, 1, 0), -1);
        int[][] wrong = {{4, 0, 0, 0}, {-1, 0, 0, 0}, {0, 4, 0, 0}, {0, -1, 0, 0}, {0, 0, 4, 0}, {0, 0, -1, 0}, {0, 0, 0, 4},
            {0, 0, 0, -1}};
        for (int[] w : wrong) {
            due("chase", x.chase(w[0], w[1], w[2], w[3]), -2);
        }
    }

    private static int longestChase(String text) {
        int longest = -1;
        for (int thief = 0; thief < 80; thief++) {
            LeftTurns x = Check.city(text);
            for (int watch = 0; watch < 80; watch++) {
                longest = Math.max(longest, x.chase(thief / 4, thief % 4, watch / 4, watch % 4));
            }
        }
        return longest;
    }

    private void posts() {
        doc.promises(36, "posts", "int posts(int thief, int thiefHeads, int watchHeads, int n)");
        doc.says("Where a watch that HEADS so must begin so that it surely CATCHES a thief within n goings (0 to 30): CROSSINGS, as bits.");
        LeftTurns x = Check.city("city 3 2;wall 1 0 2;");
        for (int i = 0; i < 16; i++) {
            for (int n : new int[] {0, 1, 5, 30}) {
                int bits = 0;
                for (int c = 0; c < 6; c++) {
                    int goings = x.chase(1, i / 4, c, i % 4);
                    bits |= goings >= 0 && goings <= n ? 1 << c : 0;
                }
                due("posts(1, " + i / 4 + ", " + i % 4 + ", " + n + ")", x.posts(1, i / 4, i % 4, n), bits);
            }
        }
        LeftTurns y = Check.city("city 2 2;");
        due("southward in none", y.posts(2, 2, 2, 0), 1 << 2);
        due("southward in one", y.posts(2, 2, 2, 1), 1 << 0 | 1 << 2 | 1 << 3);
        due("southward in two", y.posts(2, 2, 2, 2), 15);
        doc.says("-2: the CROSSING, the directions; -3.");
        due("crossing 4", y.posts(4, 0, 0, 0), -2);
        due("crossing -1", y.posts(-1, 0, 0, 0), -2);
        due("thief's direction", y.posts(0, 4, 0, 0), -2);
        due("watch's direction", y.posts(0, 0, 4, 0), -2);
        due("watch's direction", y.posts(0, 0, -1, 0), -2);
        due("n -1", y.posts(0, 0, 0, -1), -3);
        due("n 31", y.posts(0, 0, 0, 31), -3);
    }

    private void numbers() {
        doc.promises(37, "numbers", "int numbers(int tray, int sort, int n)");
        doc.says("A TRAY has n numbers of a sort, all 0 (in place of another one): 0.");
        LeftTurns x = Check.city("city 3 3;person 0 0 east;person 1 1 north;");
        Check.tray(x, 0, 1, 1, 1);
        due("a walk of person 1", x.judge(0, 2), 8);
        due("in its place", x.numbers(0, 1, 2), 0);
        due("all 0: person 0 straight on", x.judge(0, 2), 1);
        due("of that sort", x.write(0, 1, 65537), 1);
        due("two numbers", x.write(0, 2, 1), -7);
        doc.says("-2: no such TRAY, sort; -3, and the TRAY stays: n is below 0 or above 40.");
        due("tray 4", x.numbers(4, 0, 1), -2);
        due("tray -1", x.numbers(-1, 0, 1), -2);
        due("sort 4", x.numbers(0, 4, 1), -2);
        due("sort -1", x.numbers(0, -1, 1), -2);
        due("n -1", x.numbers(0, 0, -1), -3);
        due("n 41", x.numbers(0, 0, 41), -3);
        due("the tray stays", x.judge(0, 2), 3);
        due("its sort stays", x.write(0, 1, 256), 256);
        due("a missing one stays", x.numbers(1, 0, 41), -3);
        due("missing", x.judge(1, 0), -6);
    }

    private void write() {
        doc.promises(38, "write", "long write(int tray, int i, long v)");
        doc.says("Number i of a TRAY is v, cut to its sort: as it is there.");
        LeftTurns x = Check.city("city 3 3;person 0 0 east;person 1 1 north;");
        long v = (1L << 40) + (1L << 24) + (1L << 12) + 1;
        long[] cut = {1, (1 << 12) + 1, (1 << 24) + (1 << 12) + 1, v};
        for (int sort = 0; sort < 4; sort++) {
            x.numbers(0, sort, 1);
            due("sort " + sort, x.write(0, 0, v), cut[sort]);
            due("as it is there, it is person 1 or nobody", x.judge(0, 2), sort == 0 ? 4 : -1);
        }
        doc.says("-2: no such TRAY; -6; -7.");
        due("tray 4", x.write(4, 0, 1), -2);
        due("tray -1", x.write(-1, 0, 1), -2);
        due("missing", x.write(1, 0, 1), -6);
        due("number 1", x.write(0, 1, 1), -7);
        due("number -1", x.write(0, -1, 1), -7);
    }

    private void lists() {
        doc.promises(39, "lists", "int lists(int tray, int p, int c, int k)");
        doc.says("A PERSON and its WAY to a CROSSING with k LEFTS come into a TRAY as a WALK, as many numbers as it has places: how many.");
        LeftTurns x = Check.city("city 3 3;person 0 0 east;person 1 1 north lefts 9;");
        x.numbers(0, 0, 6);
        due("six numbers", x.lists(0, 1, 3, 0), 6);
        check.judged(x, 0, -1, 0, 3, 0);
        x.numbers(0, 0, 4);
        due("as many as it has places", x.lists(0, 1, 3, 0), 4);
        check.judged(x, 0, -1, 0, 5, 0);
        x.numbers(0, 0, 2);
        due("with a left", x.lists(0, 1, 3, 1), 2);
        check.judged(x, 0, -1, 0, 3, 1);
        x.numbers(0, 0, 5);
        due("fewer than it has places", x.lists(0, 1, 1, 0), 2);
        check.judged(x, 0, 2, 2, 1, 0);
        due("where it is", x.lists(0, 1, 4, 0), 1);
        x.numbers(0, 0, 0);
        due("no places", x.lists(0, 1, 1, 0), 0);
        doc.says("-2: the TRAY, the PERSON, the CROSSING; -6; -3: k; -5: there is none.");
        due("tray 4", x.lists(4, 0, 0, 0), -2);
        due("person 2", x.lists(0, 2, 0, 0), -2);
        due("crossing 9", x.lists(0, 0, 9, 0), -2);
        due("missing", x.lists(1, 0, 0, 0), -6);
        due("k -1", x.lists(0, 0, 0, -1), -3);
        due("k 121", x.lists(0, 0, 0, 121), -3);
        LeftTurns y = Check.city(CLOSED);
        y.numbers(0, 0, 0);
        due("there is none", y.lists(0, 0, 3, 120), -5);
    }

    private void image() {
        doc.promises(40, "image", "int image(int i)");
        doc.says("An IMAGE is made: 0.");
        LeftTurns x = Check.city("city 2 2;hour 3;");
        due("image 0", x.image(0), 0);
        x.hours(2);
        due("image 1", x.image(1), 0);
        x.hours(2);
        x.restore(0);
        due("hours of image 0", x.count(3), 3);
        x.restore(1);
        due("hours of image 1", x.count(3), 5);
        x.image(0);
        x.hours(9);
        x.restore(0);
        due("in place of the earlier one", x.count(3), 5);
        doc.says("-2.");
        due("image 2", x.image(2), -2);
        due("image -1", x.image(-1), -2);
    }

    private void restore() {
        doc.promises(41, "restore", "int restore(int i)");
        doc.says("All that is in an IMAGE is as it was: 0.");
        LeftTurns x = Check.city("city 3 2;free 0 0;wall 1 1 1;person 1 1 north lefts 4 coins 9;price:2+sold;may:head=3;hour 6;");
        x.buy(0, 1);
        x.go(0, 2);
        x.fog(5, 4);
        LeftTurns y = Check.city("city 3 2;free 0 0;wall 1 1 1;person 1 1 north lefts 4 coins 9;price:2+sold;may:head=3;hour 6;");
        y.buy(0, 1);
        y.go(0, 2);
        y.fog(5, 4);
        x.image(0);
        y.image(0);
        Check.read(x, "city 2 2;person 0 0 south lefts 1;free 1 1;");
        x.go(0, 0);
        due("restored", x.restore(0), 0);
        due("restored", y.restore(0), 0);
        Twins.alike(check, "restore(0)", x, y);
        doc.says("-2; -5: none was made.");
        LeftTurns z = new LeftTurns();
        due("image 2", z.restore(2), -2);
        due("image -1", z.restore(-1), -2);
        due("none was made", z.restore(0), -5);
        z.image(1);
        due("none was made", z.restore(0), -5);
        due("one was made", z.restore(1), 0);
    }

    private void count() {
        doc.promises(42, "count", "int count(int what)");
        doc.says("0 WIDE, 1 HIGH, 2 PEOPLE, 3 HOURS gone by, 4 LEFTS sold, 5 FREE CROSSINGS now, 6 calls that can be UNDONE, 7 bytes on THE"
            + " TAPE, 8 LINES, 9 LEFTS of all PEOPLE.");
        LeftTurns x = Check.city("city 4 3;person 0 0 south lefts 2 coins 9;person 1 1 east lefts 30 coins 9;free 0 0;hour 8;");
        x.buy(0, 2);
        x.buy(1, 3);
        x.fog(5, 2);
        x.go(1, 0);
        Check.feed(x, "hour 1; and some more");
        long[] want = {4, 3, 2, 9, 5, 2, 4, 40, 5, 37};
        for (int what = 0; what < 10; what++) {
            due("count(" + what + ")", x.count(what), want[what]);
        }
        doc.says("NONE for others.");
        due("what 10", x.count(10), -1);
        due("what -1", x.count(-1), -1);
    }
}
