import java.util.function.ToLongFunction;

/** Every call that can be refused: by which code, which of several is told, and that nothing has changed behind it. */
public final class RefusedTest {
    private static final Check CHECK = new Check("RefusedTest");
    private static final int LOW = Integer.MIN_VALUE;
    private static final int HIGH = Integer.MAX_VALUE;
    /** Nine crossings, 0 walled in; people 0, 2 and 3 at one crossing; in the hour 9 no left goes west any more. */
    private static final String RICH = "city 3 3;free 2 0;wall 0 0 1;wall 0 0 2;price:2+hour+sold;may:not head=3 or hour<9;"
        + "person 1 2 north lefts 2 coins 30;person 2 0 west lefts 99 coins 50;person 1 2 east lefts 1 coins 999;"
        + "person 1 2 west lefts 98;hour 1;";
    private static final int PEOPLE = 4;
    private static final int CROSSINGS = 9;
    /** Trays of RICH: a walk, an empty one, five numbers, none. */
    private static final int WALK = 0;
    private static final int EMPTY = 1;
    private static final int FIVE = 2;
    private static final int GONE = 3;

    /** Three deeds can be undone, image 1 is made, 20 bytes are on the tape. */
    private static final Twins TWINS = new Twins(CHECK, x -> {
        Check.read(x, RICH);
        x.image(1);
        x.buy(0, 1);
        x.fog(4, 5);
        x.go(1, 0);
        x.numbers(WALK, 0, 3);
        x.write(WALK, 2, 1);
        x.numbers(EMPTY, 3, 0);
        x.numbers(FIVE, 1, 5);
        x.write(FIVE, 1, 4);
        x.write(FIVE, 4, 8);
        Check.feed(x, "hour 3;");
    });

    public static void main(String[] args) {
        askedOfTheCity();
        goings();
        walks();
        bought();
        sold();
        handed();
        fogsAndHours();
        undone();
        weeks();
        ways();
        turns();
        moreWays();
        rounds();
        corners();
        dealings();
        found();
        chases();
        trays();
        lists();
        images();
        tapes();
        faults();
        nowhere();
        nobody();
        numbersThatWrap();
        CHECK.end();
    }

    private static void refused(String call, long code, ToLongFunction<LeftTurns> asked) {
        TWINS.refused(call, code, asked);
    }

    private static int[] notOf(int size) {
        return new int[] {-1, size, size + 1, LOW, HIGH};
    }

    private static int[] outside(int low, int high) {
        return new int[] {low - 1, high + 1, LOW, HIGH};
    }

    private static void askedOfTheCity() {
        for (int p : notOf(PEOPLE)) {
            refused("person(" + p + ", 0)", -8, x -> x.person(p, 0));
            refused("why(" + p + ", 0)", 1, x -> x.why(p, 0));
        }
        for (int what : notOf(5)) {
            refused("person(0, " + what + ")", -8, x -> x.person(0, what));
            refused("crossing(0, " + what + ")", -2, x -> x.crossing(0, what));
        }
        for (int c : notOf(CROSSINGS)) {
            refused("street(" + c + ", 0)", -2, x -> x.street(c, 0));
            refused("crossing(" + c + ", 0)", -2, x -> x.crossing(c, 0));
            refused("price(" + c + ", 0, 0)", -2, x -> x.price(c, 0, 0));
            refused("price(" + c + ", 0, 1000)", -2, x -> x.price(c, 0, 1000));
        }
        for (int d : notOf(4)) {
            refused("street(0, " + d + ")", -2, x -> x.street(0, d));
            refused("price(0, " + d + ", 0)", -2, x -> x.price(0, d, 0));
            refused("price(0, " + d + ", -1)", -2, x -> x.price(0, d, -1));
            refused("why(0, " + d + ")", 1, x -> x.why(0, d));
        }
        for (int n : outside(0, 999)) {
            refused("price(0, 0, " + n + ")", -3, x -> x.price(0, 0, n));
        }
        for (int what : notOf(10)) {
            refused("count(" + what + ")", -1, x -> x.count(what));
            refused("fault(" + what + ")", -1, x -> x.fault(what));
        }
    }

    private static void goings() {
        for (int p : notOf(PEOPLE)) {
            refused("go(" + p + ", 0)", -11, x -> x.go(p, 0));
        }
        for (int turn : notOf(4)) {
            refused("go(0, " + turn + ")", -11, x -> x.go(0, turn));
        }
        refused("go, no street", -12, x -> x.go(0, 3));
        refused("go, no lefts for back", -14, x -> x.go(2, 3));
        Twins late = TWINS.and(x -> x.hours(7));
        late.refused("go, it may not", -13, x -> x.go(0, 2));
        late.refused("go, it may not, ahead of no lefts", -13, x -> x.go(2, 3));
        late.refused("go, no street, ahead of it may not", -12, x -> x.go(0, 3));
        late.refused("go, no person, ahead of all", -11, x -> x.go(4, 3));
    }

    private static void walks() {
        for (int tray : notOf(4)) {
            refused("walk(" + tray + ")", -2, x -> x.walk(tray));
            refused("judge(" + tray + ", 0)", -2, x -> x.judge(tray, 0));
        }
        for (int what : notOf(4)) {
            refused("judge(0, " + what + ")", -2, x -> x.judge(WALK, what));
            refused("judge(3, " + what + "), what ahead of missing", -2, x -> x.judge(GONE, what));
        }
        refused("walk of a missing one", -6, x -> x.walk(GONE));
        for (int what = 0; what < 4; what++) {
            int asked = what;
            refused("judge of a missing one", -6, x -> x.judge(GONE, asked));
            refused("judge of an empty one", new int[] {0, 1, -1, 0}[what], x -> x.judge(EMPTY, asked));
            refused("judge changes nothing", new int[] {-1, 0, 5, 0}[what], x -> x.judge(WALK, asked));
        }
        refused("walk of an empty one did nothing", 0, x -> x.walk(EMPTY));
        Twins nobody = TWINS.and(x -> x.write(WALK, 0, PEOPLE));
        nobody.refused("walk of nobody did nothing", 0, x -> x.walk(WALK));
        Twins stuck = TWINS.and(x -> x.write(WALK, 1, 3));
        stuck.refused("walk that can't begin did nothing", 0, x -> x.walk(WALK));
    }

    /** Person 0 has 27 coins where lefts are 5, 6, 7, 8 and 9; person 1 has 99 lefts and 50 coins where they are 4 and more. */
    private static void bought() {
        for (int p : notOf(PEOPLE)) {
            refused("buy(" + p + ", 1)", -2, x -> x.buy(p, 1));
            refused("buy(" + p + ", 0)", -2, x -> x.buy(p, 0));
        }
        for (int n : outside(1, 20)) {
            refused("buy(0, " + n + ")", -3, x -> x.buy(0, n));
            refused("buy(1, " + n + "), n ahead of too many", -3, x -> x.buy(1, n));
        }
        refused("buy(0, 5), too dear by 8", -5, x -> x.buy(0, 5));
        refused("buy(3, 1), no coins", -5, x -> x.buy(3, 1));
        refused("buy(1, 1), a hundredth", -4, x -> x.buy(1, 1));
        refused("buy(1, 20), too dear ahead of too many", -5, x -> x.buy(1, 20));
        TWINS.and(x -> CHECK.due("buy(0, 4) can be", x.buy(0, 4), 26)).refused("buy(0, 1), too dear then", -5, x -> x.buy(0, 1));
    }

    private static void sold() {
        for (int p : notOf(PEOPLE)) {
            refused("sell(" + p + ")", -2, x -> x.sell(p));
        }
        refused("sell(0), none used", -5, x -> x.sell(0));
        Twins once = TWINS.and(x -> CHECK.due("a left", x.go(0, 2), 6)).and(x -> CHECK.due("sold", x.sell(0), 1));
        once.refused("sell(0), none left", -5, x -> x.sell(0));
    }

    /** Person 0 has 3 lefts, person 3 has 98. */
    private static void handed() {
        for (int p : notOf(PEOPLE)) {
            refused("hand(" + p + ", 0, 1)", -2, x -> x.hand(p, 0, 1));
            refused("hand(0, " + p + ", 1)", -2, x -> x.hand(0, p, 1));
            refused("hand(0, " + p + ", 0)", -2, x -> x.hand(0, p, 0));
        }
        refused("hand(0, 0, 1), both one", -2, x -> x.hand(0, 0, 1));
        refused("hand(0, 0, 0), both one ahead of n", -2, x -> x.hand(0, 0, 0));
        for (int n : outside(1, 99)) {
            refused("hand(0, 2, " + n + ")", -3, x -> x.hand(0, 2, n));
            refused("hand(0, 1, " + n + "), n ahead of elsewhere", -3, x -> x.hand(0, 1, n));
        }
        refused("hand(0, 1, 1), elsewhere, ahead of too many", -5, x -> x.hand(0, 1, 1));
        refused("hand(0, 2, 4), not so many", -5, x -> x.hand(0, 2, 4));
        refused("hand(0, 3, 4), not so many, ahead of too many", -5, x -> x.hand(0, 3, 4));
        refused("hand(0, 3, 2), a hundredth", -4, x -> x.hand(0, 3, 2));
        TWINS.and(x -> CHECK.due("hand(0, 3, 1) can be", x.hand(0, 3, 1), 99)).refused("one more", -4, x -> x.hand(0, 3, 1));
    }

    private static void fogsAndHours() {
        for (int c : notOf(CROSSINGS)) {
            refused("fog(" + c + ", 1)", -2, x -> x.fog(c, 1));
            refused("fog(" + c + ", 0)", -2, x -> x.fog(c, 0));
        }
        for (int n : outside(1, 99)) {
            refused("fog(0, " + n + ")", -3, x -> x.fog(0, n));
            refused("fog(4, " + n + "), where fog is", -3, x -> x.fog(4, n));
            refused("hours(" + n + ")", -3, x -> x.hours(n));
        }
    }

    private static void undone() {
        for (int n : new int[] {0, -1, 4, 5, 10, 11, LOW, HIGH}) {
            refused("undo(" + n + ")", -3, x -> x.undo(n));
        }
        Twins none = TWINS.and(x -> CHECK.due("all", x.undo(3), 0));
        for (int n : new int[] {0, 1, 2, 10, 11}) {
            none.refused("undo(" + n + ") of none", -3, x -> x.undo(n));
        }
    }

    private static void weeks() {
        for (int times : outside(1, 60)) {
            refused("week(5, " + times + ")", -3, x -> x.week(5, times));
        }
        Twins nobody = TWINS.and(x -> Check.read(x, "city 2 2;")).and(x -> x.hours(2));
        nobody.refused("week of nobody", -5, x -> x.week(5, 1));
        nobody.refused("week of nobody", -5, x -> x.week(5, 60));
        nobody.refused("times, ahead of nobody", -3, x -> x.week(5, 61));
        nobody.refused("times, ahead of nobody", -3, x -> x.week(5, 0));
    }

    /** A call of a person and a crossing, at the bounds of both, whatever the others are. */
    private static void badPersonOrCrossing(String call, Asked asked) {
        for (int p : notOf(PEOPLE)) {
            refused(call + " of " + p, -2, x -> asked.of(x, p, 0));
        }
        for (int c : notOf(CROSSINGS)) {
            refused(call + " to " + c, -2, x -> asked.of(x, 0, c));
        }
    }

    private interface Asked {
        long of(LeftTurns x, int p, int c);
    }

    private static void ways() {
        for (int k : new int[] {0, 120, -1, 121}) {
            badPersonOrCrossing("way", (x, p, c) -> x.way(p, c, k));
            badPersonOrCrossing("turn", (x, p, c) -> x.turn(p, c, k, 0));
            badPersonOrCrossing("turn, i", (x, p, c) -> x.turn(p, c, k, -1));
        }
        for (int k : outside(0, 120)) {
            refused("way with " + k, -3, x -> x.way(0, 8, k));
            refused("way with " + k + ", ahead of none", -3, x -> x.way(0, 0, k));
            refused("reach with " + k, -3, x -> x.reach(0, k));
            refused("reach of nobody with " + k, -2, x -> x.reach(PEOPLE, k));
        }
        refused("no way", -1, x -> x.way(0, 0, 120));
        refused("a way", 1, x -> x.way(0, 8, 0));
        for (int p : notOf(PEOPLE)) {
            refused("reach of " + p, -2, x -> x.reach(p, 0));
            refused("enough of " + p, -2, x -> x.enough(p));
        }
    }

    private static void turns() {
        for (int k : outside(0, 120)) {
            refused("turn with " + k, -3, x -> x.turn(0, 8, k, 0));
            refused("turn with " + k + ", ahead of none", -3, x -> x.turn(0, 0, k, 0));
            refused("turn with " + k + ", ahead of not so many", -3, x -> x.turn(0, 8, k, 99));
        }
        for (int i : new int[] {-1, -2, LOW}) {
            refused("turn " + i, -3, x -> x.turn(0, 8, 0, i));
            refused("turn " + i + ", ahead of none", -3, x -> x.turn(0, 0, 0, i));
        }
        for (int i : new int[] {1, 2, 60, 61, HIGH}) {
            refused("turn " + i + ", not so many", -1, x -> x.turn(0, 8, 0, i));
            refused("turn " + i + " of none", -1, x -> x.turn(0, 0, 120, i));
        }
        refused("the one turn", 1, x -> x.turn(0, 8, 0, 0));
    }

    private static void moreWays() {
        for (int n : new int[] {0, 60, -1, 61}) {
            badPersonOrCrossing("fewest", (x, p, c) -> x.fewest(p, c, n));
            badPersonOrCrossing("cheapest", (x, p, c) -> x.cheapest(p, c, n));
            badPersonOrCrossing("ways", (x, p, c) -> x.ways(p, c, n, n));
        }
        for (int n : outside(0, 60)) {
            refused("fewest in " + n, -3, x -> x.fewest(0, 8, n));
            refused("fewest in " + n + ", ahead of none", -3, x -> x.fewest(0, 0, n));
            refused("cheapest in " + n, -3, x -> x.cheapest(0, 8, n));
            refused("cheapest in " + n + ", ahead of none", -3, x -> x.cheapest(0, 0, n));
        }
        for (int n : outside(0, 20)) {
            refused("ways of " + n, -3, x -> x.ways(0, 8, n, 0));
        }
        for (int k : outside(0, 40)) {
            refused("ways with " + k, -3, x -> x.ways(0, 8, 0, k));
        }
        for (int c : notOf(CROSSINGS)) {
            refused("byRights(" + c + ", 0)", -2, x -> x.byRights(c, 0));
        }
        for (int d : notOf(4)) {
            refused("byRights(0, " + d + ")", -2, x -> x.byRights(0, d));
        }
        refused("no left goes there", -1, x -> x.byRights(0, 0));
    }

    private static void rounds() {
        for (int tray : new int[] {WALK, EMPTY, FIVE, GONE}) {
            for (int p : notOf(PEOPLE)) {
                refused("round of " + p, -2, x -> x.round(p, tray, 0));
            }
            for (int what : new int[] {-1, 2, 3, 9, LOW}) {
                refused("round, what " + what, -2, x -> x.round(0, tray, what));
            }
        }
        for (int tray : notOf(4)) {
            refused("round by " + tray, -2, x -> x.round(0, tray, 0));
        }
        for (int what : new int[] {0, 1, 10, 14, HIGH}) {
            refused("round by a missing one, " + what, -6, x -> x.round(0, GONE, what));
            refused("round by none, " + what, -4, x -> x.round(0, EMPTY, what));
            refused("round by five, " + what, -4, x -> x.round(0, FIVE, what));
            Twins wrong = TWINS.and(x -> x.write(WALK, 2, CROSSINGS));
            wrong.refused("round to no crossing, " + what, -3, x -> x.round(0, WALK, what));
            Twins below = TWINS.and(x -> x.write(WALK, 2, 255));
            below.refused("round to no crossing below 0, " + what, -3, x -> x.round(0, WALK, what));
            refused("round to where nobody gets, " + what, -1, x -> x.round(0, WALK, what));
        }
        Twins manyWrong = TWINS.and(x -> x.write(FIVE, 0, CROSSINGS));
        manyWrong.refused("too many, ahead of no crossing", -4, x -> x.round(0, FIVE, 0));
    }

    private static void corners() {
        for (int n : new int[] {0, 20, -1, 31}) {
            badPersonOrCrossing("makeFree", (x, p, c) -> x.makeFree(p, c, n, 0));
            badPersonOrCrossing("bestCorner", (x, p, c) -> x.bestCorner(p, c, n));
            for (int what : notOf(2)) {
                refused("makeFree, what " + what, -2, x -> x.makeFree(0, 8, n, what));
            }
        }
        for (int n : outside(0, 20)) {
            refused("makeFree in " + n, -3, x -> x.makeFree(0, 8, n, 0));
            refused("makeFree in " + n + ", ahead of none", -3, x -> x.makeFree(0, 0, n, 1));
        }
        for (int n : outside(0, 30)) {
            refused("bestCorner in " + n, -3, x -> x.bestCorner(0, 8, n));
            refused("bestCorner in " + n + ", ahead of none", -3, x -> x.bestCorner(0, 0, n));
        }
        refused("makeFree, not by two", -1, x -> x.makeFree(0, 0, 20, 0));
        refused("bestCorner, no way", -1, x -> x.bestCorner(0, 0, 30));
    }

    private static void dealings() {
        for (int c : notOf(CROSSINGS)) {
            refused("dealing at " + c, -2, x -> x.dealing(c, 0, 0));
        }
        for (int d : notOf(4)) {
            refused("dealing heading " + d, -2, x -> x.dealing(0, d, 0));
        }
        for (int what : notOf(3)) {
            refused("dealing, what " + what, -2, x -> x.dealing(0, 0, what));
        }
        for (int p : notOf(PEOPLE)) {
            refused("affords of " + p, -2, x -> x.affords(p));
        }
        refused("affords changes nothing", 4, x -> x.affords(0));
        refused("dealing changes nothing", 21, x -> x.dealing(0, 0, 0));
    }

    private static void found() {
        for (int p : notOf(PEOPLE)) {
            refused("found of " + p, -2, x -> x.found(p, GONE, 0));
        }
        for (int tray : notOf(4)) {
            refused("found in " + tray, -2, x -> x.found(0, tray, 31));
        }
        Twins eleven = TWINS.and(x -> x.numbers(GONE, 2, 11));
        Twins ten = TWINS.and(x -> x.numbers(GONE, 2, 10));
        for (int n : outside(0, 30)) {
            refused("found in a missing one", -6, x -> x.found(0, GONE, n));
            refused("found, n " + n, -3, x -> x.found(0, EMPTY, n));
            refused("found, n " + n, -3, x -> x.found(0, WALK, n));
            eleven.refused("eleven, ahead of n", -4, x -> x.found(0, GONE, n));
            ten.refused("ten, n " + n, -3, x -> x.found(0, GONE, n));
        }
        eleven.refused("eleven", -4, x -> x.found(0, GONE, 0));
        eleven.and(x -> x.write(GONE, 0, CROSSINGS)).refused("eleven, ahead of no crossing", -4, x -> x.found(0, GONE, 0));
        ten.refused("ten can't be so soon", 0, x -> x.found(0, GONE, 4));
        for (int v : new int[] {-1, CROSSINGS, HIGH}) {
            ten.and(x -> x.write(GONE, 9, v)).refused("ten with no crossing", -3, x -> x.found(0, GONE, 0));
        }
    }

    private static void chases() {
        for (int c : notOf(CROSSINGS)) {
            refused("chase of a thief at " + c, -2, x -> x.chase(c, 0, 0, 0));
            refused("chase by a watch at " + c, -2, x -> x.chase(0, 0, c, 0));
            refused("posts for a thief at " + c, -2, x -> x.posts(c, 0, 0, 0));
            refused("posts for a thief at " + c + ", ahead of n", -2, x -> x.posts(c, 0, 0, 31));
        }
        for (int d : notOf(4)) {
            refused("chase of a thief heading " + d, -2, x -> x.chase(0, d, 0, 0));
            refused("chase by a watch heading " + d, -2, x -> x.chase(0, 0, 0, d));
            refused("posts for a thief heading " + d, -2, x -> x.posts(0, d, 0, -1));
            refused("posts of a watch heading " + d, -2, x -> x.posts(0, 0, d, 31));
        }
        for (int n : outside(0, 30)) {
            refused("posts in " + n, -3, x -> x.posts(0, 0, 0, n));
        }
    }

    private static void trays() {
        for (int tray : notOf(4)) {
            refused("numbers of " + tray, -2, x -> x.numbers(tray, 0, 1));
            refused("numbers of " + tray + ", ahead of n", -2, x -> x.numbers(tray, 0, 41));
            refused("write to " + tray, -2, x -> x.write(tray, 0, 1));
        }
        for (int sort : notOf(4)) {
            refused("numbers of sort " + sort, -2, x -> x.numbers(WALK, sort, 1));
            refused("numbers of sort " + sort + ", ahead of n", -2, x -> x.numbers(WALK, sort, -1));
        }
        for (int n : outside(0, 40)) {
            for (int tray = 0; tray < 4; tray++) {
                int asked = tray;
                refused("numbers(" + tray + ", 2, " + n + ")", -3, x -> x.numbers(asked, 2, n));
            }
        }
        for (int i : notOf(3)) {
            refused("write at " + i, -7, x -> x.write(WALK, i, 1));
            refused("write at " + i + " of a missing one", -6, x -> x.write(GONE, i, 1));
        }
        refused("write to an empty one", -7, x -> x.write(EMPTY, 0, 1));
        refused("write to a missing one", -6, x -> x.write(GONE, 0, 1));
        refused("write behind five", -7, x -> x.write(FIVE, 5, 1));
    }

    private static void lists() {
        for (int tray : notOf(4)) {
            refused("lists into " + tray, -2, x -> x.lists(tray, 0, 8, 0));
        }
        for (int tray : new int[] {WALK, EMPTY, GONE}) {
            badPersonOrCrossing("lists", (x, p, c) -> x.lists(tray, p, c, 0));
            badPersonOrCrossing("lists, k", (x, p, c) -> x.lists(tray, p, c, 121));
        }
        for (int k : outside(0, 120)) {
            refused("lists into a missing one", -6, x -> x.lists(GONE, 0, 8, k));
            refused("lists with " + k, -3, x -> x.lists(WALK, 0, 8, k));
            refused("lists with " + k + " into none", -3, x -> x.lists(EMPTY, 0, 8, k));
            refused("lists with " + k + ", ahead of none", -3, x -> x.lists(WALK, 0, 0, k));
        }
        refused("lists of none into a missing one", -6, x -> x.lists(GONE, 0, 0, 0));
        refused("lists of none", -5, x -> x.lists(WALK, 0, 0, 120));
        refused("lists of none into an empty one", -5, x -> x.lists(EMPTY, 0, 0, 120));
        refused("lists into no place", 0, x -> x.lists(EMPTY, 0, 8, 0));
    }

    private static void images() {
        for (int i : notOf(2)) {
            refused("image(" + i + ")", -2, x -> x.image(i));
            refused("restore(" + i + ")", -2, x -> x.restore(i));
        }
        refused("restore of none", -5, x -> x.restore(0));
    }

    private static void tapes() {
        for (int n : new int[] {-1, 21, 900, 901, LOW, HIGH}) {
            refused("city(" + n + ") of 20", -3, x -> x.city(n));
        }
        Twins full = TWINS.and(x -> Check.feed(x, "hour 4;" + " ".repeat(873)));
        full.refused("a byte beyond 900", -5, x -> x.feed(0x686f7572, 0x20353b20, 0, 0, 0));
        full.refused("city(901)", -3, x -> x.city(901));
        Twins faulty = TWINS.and(x -> x.city(0)).and(x -> Check.read(x, "hour !"));
        faulty.refused("city(1) of none", -3, x -> x.city(1));
    }

    /** A faulty text leaves all but the tape; here that is empty ahead of it. */
    private static void faults() {
        Twins read = new Twins(CHECK, x -> {
            Check.read(x, RICH);
            x.image(0);
            x.buy(0, 1);
            x.hours(5);
            x.numbers(WALK, 0, 3);
        });
        String[] faulty = {"!", "hour", "city 2 6;", "price:(((((((1)))))));", "city 2 2;city 2 2;", "hour 7;price:9;may:0=1;!",
            "city 5 5;free 0 0;wall 0 0 1;person 0 0 north lefts 9;x"};
        for (String text : faulty) {
            read.leftAlone("the faulty text " + text, x -> CHECK.due("city of " + text, Check.read(x, text) < -30));
        }
    }

    /** Without a city there is no crossing, no person, no direction of any. */
    private static void nowhere() {
        Twins none = new Twins(CHECK, x -> {
            x.hours(3);
            x.numbers(0, 0, 1);
        });
        none.refused("person", -8, x -> x.person(0, 0));
        none.refused("street", -2, x -> x.street(0, 0));
        none.refused("crossing", -2, x -> x.crossing(0, 0));
        none.refused("price", -2, x -> x.price(0, 0, 0));
        none.refused("fog", -2, x -> x.fog(0, 1));
        none.refused("byRights", -2, x -> x.byRights(0, 0));
        none.refused("dealing", -2, x -> x.dealing(0, 0, 0));
        none.refused("cheap", -1, x -> x.cheap());
        none.refused("chase", -2, x -> x.chase(0, 0, 0, 0));
        none.refused("posts", -2, x -> x.posts(0, 0, 0, 0));
        nobodyAt(none);
    }

    private static void nobody() {
        nobodyAt(new Twins(CHECK, x -> {
            Check.read(x, "city 2 2;price:x;");
            x.hours(3);
            x.numbers(0, 0, 1);
        }));
    }

    private static void nobodyAt(Twins none) {
        none.refused("why", 1, x -> x.why(0, 0));
        none.refused("go", -11, x -> x.go(0, 0));
        none.refused("judge", 0, x -> x.judge(0, 0));
        none.refused("judge", 1, x -> x.judge(0, 1));
        none.refused("judge", -1, x -> x.judge(0, 2));
        none.refused("walk", 0, x -> x.walk(0));
        none.refused("buy", -2, x -> x.buy(0, 1));
        none.refused("sell", -2, x -> x.sell(0));
        none.refused("hand", -2, x -> x.hand(0, 1, 1));
        none.refused("week", -5, x -> x.week(0, 1));
        none.refused("way", -2, x -> x.way(0, 0, 0));
        none.refused("turn", -2, x -> x.turn(0, 0, 0, 0));
        none.refused("fewest", -2, x -> x.fewest(0, 0, 0));
        none.refused("cheapest", -2, x -> x.cheapest(0, 0, 0));
        none.refused("ways", -2, x -> x.ways(0, 0, 0, 0));
        none.refused("reach", -2, x -> x.reach(0, 0));
        none.refused("enough", -2, x -> x.enough(0));
        none.refused("round", -2, x -> x.round(0, 0, 0));
        none.refused("makeFree", -2, x -> x.makeFree(0, 0, 0, 0));
        none.refused("bestCorner", -2, x -> x.bestCorner(0, 0, 0));
        none.refused("affords", -2, x -> x.affords(0));
        none.refused("found", -2, x -> x.found(0, 0, 0));
        none.refused("lists", -2, x -> x.lists(0, 0, 0, 0));
    }

    /** Numbers that wrap around when they are added or multiplied are refused like all others. */
    private static void numbersThatWrap() {
        for (int wrap : new int[] {1 << 30, -(1 << 30), (1 << 30) + 1, 1 << 29, LOW + 1, HIGH - 1}) {
            refused("street(" + wrap + ", 0)", -2, x -> x.street(wrap, 0));
            refused("street(0, " + wrap + ")", -2, x -> x.street(0, wrap));
            refused("chase(" + wrap + ", ...)", -2, x -> x.chase(wrap, wrap, wrap, wrap));
            refused("go(" + wrap + ", ...)", -11, x -> x.go(wrap, wrap));
            refused("hours(" + wrap + ")", -3, x -> x.hours(wrap));
            refused("fog(0, " + wrap + ")", -3, x -> x.fog(0, wrap));
            refused("price(0, 0, " + wrap + ")", -3, x -> x.price(0, 0, wrap));
            refused("buy(0, " + wrap + ")", -3, x -> x.buy(0, wrap));
            refused("hand(0, 2, " + wrap + ")", -3, x -> x.hand(0, 2, wrap));
            refused("write(0, " + wrap + ", 1)", -7, x -> x.write(WALK, wrap, 1));
            refused("judge(0, " + wrap + ")", -2, x -> x.judge(WALK, wrap));
        }
    }
}
