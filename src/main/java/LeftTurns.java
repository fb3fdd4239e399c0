import java.util.Arrays;

/** A market of left turns. The numbered promises stand in ../shared/DOC.md; README.md tells how to use it. */
public final class LeftTurns {
    public static final int NONE = -1;

    private static final int NO_SUCH = -2;
    private static final int CANNOT_BE = -3;
    private static final int TOO_MANY = -4;
    private static final int NOT_NOW = -5;
    private static final int MISSING = -6;
    private static final int NO_PLACE = -7;
    private static final int NOBODY = -8;
    private static final int WHY_NOT = -10;
    private static final int FAULTY = -30;

    private static final int MOST_TEXT = 900;
    private static final int MOST_CROSSINGS = 25;
    private static final int MOST_PEOPLE = 5;
    private static final int MOST_LEFTS = 99;
    private static final int MOST_USED = 999;
    private static final int MOST_COINS = 9999;
    private static final int MOST_UNDONE = 10;
    private static final int MOST_STREETS = 60;
    private static final int MOST_WAY_LEFTS = 120;
    private static final int MOST_STOPS = 4;
    private static final int MOST_ENVELOPES = 10;
    private static final int MOST_GOINGS = 30;
    private static final int TRAYS = 4;
    private static final int IMAGES = 2;
    private static final int DAY = 24;

    /** A stand is a crossing and a heading in one number, 4 * crossing + heading. */
    private static final int STANDS = 4 * MOST_CROSSINGS;
    private static final int LEFT = 2;
    /** How far each turn (straight, right, left, back) moves the heading on, clockwise. */
    private static final int[] TURNED = {0, 1, 3, 2};

    private final City now;
    private final City spare;
    private final Reader reader;
    private final Forecast forecast;
    private final Routes routes;
    private final Rounds rounds;
    private final Tally tally;
    private final Spread spread;
    private final Hunt hunt;
    private final Tray[] trays;
    private final City[] images;
    private final boolean[] imageMade;
    private final Folk[] past;
    private final Folk before;
    /** Of the walk that was gone last: the place that couldn't be, why, the crossing then, lefts taken. */
    private final int[] walked;
    private final int[] dayPrices;
    private int pastFirst;
    private int pastSize;
    private int seed;

    public LeftTurns() {
        City city = new City();
        City read = new City();
        Forecast ahead = new Forecast(city);
        Spread ways = new Spread(city, ahead);
        Routes paths = new Routes(city, ahead, ways);
        now = city;
        spare = read;
        reader = new Reader(read);
        forecast = ahead;
        routes = paths;
        rounds = new Rounds(ways, paths);
        tally = new Tally(city, ahead);
        spread = ways;
        hunt = new Hunt(city);
        trays = new Tray[TRAYS];
        for (int i = 0; i < TRAYS; i++) {
            trays[i] = new Tray();
        }
        images = new City[IMAGES];
        for (int i = 0; i < IMAGES; i++) {
            images[i] = new City();
        }
        imageMade = new boolean[IMAGES];
        past = new Folk[MOST_UNDONE];
        for (int i = 0; i < MOST_UNDONE; i++) {
            past[i] = new Folk();
        }
        before = new Folk();
        walked = new int[4];
        dayPrices = new int[DAY];
    }

    // ---- the city

    public int feed(int a, int b, int c, int d, int e) {
        if (!reader.hasRoom()) {
            return NOT_NOW;
        }
        reader.put(a);
        reader.put(b);
        reader.put(c);
        reader.put(d);
        reader.put(e);
        return reader.fed();
    }

    public int city(int n) {
        if (n < 0 || n > reader.fed()) {
            return CANNOT_BE;
        }
        int kind = reader.read(n);
        if (kind != 0) {
            return FAULTY - kind;
        }
        now.copy(spare);
        startAnew();
        return now.lines;
    }

    public int fault(int what) {
        return what == 0 ? reader.faultKind() : what == 1 ? reader.faultPlace() : NONE;
    }

    public int person(int p, int what) {
        if (!isPerson(p)) {
            return NOBODY;
        }
        switch (what) {
            case 0: return now.folk.at[p];
            case 1: return now.folk.heads[p];
            case 2: return now.folk.lefts[p];
            case 3: return now.folk.coins[p];
            case 4: return now.folk.used[p];
            default: return NOBODY;
        }
    }

    public int street(int c, int direction) {
        if (!isStand(c, direction)) {
            return NO_SUCH;
        }
        return now.to(c, direction);
    }

    public int crossing(int c, int what) {
        if (!isCrossing(c)) {
            return NO_SUCH;
        }
        Folk folk = now.folk;
        switch (what) {
            case 0: return now.cost(c, folk.hours, folk.sold[c], 0);
            case 1: return folk.sold[c];
            case 2: return now.freeBits(folk.hours) >> c & 1;
            case 3: return Math.max(0, folk.fogEnds[c] - folk.hours);
            case 4: return now.streetsFrom(c);
            default: return NO_SUCH;
        }
    }

    public int price(int c, int direction, int n) {
        if (!isStand(c, direction)) {
            return NO_SUCH;
        }
        if (n < 0 || n > 999) {
            return CANNOT_BE;
        }
        return now.cost(c, now.folk.hours + n, now.folk.sold[c], direction);
    }

    public int why(int p, int turn) {
        return now.hindrance(p, turn);
    }

    // ---- deeds

    public int go(int p, int turn) {
        int kind = now.hindrance(p, turn);
        if (kind != 0) {
            return WHY_NOT - kind;
        }
        keep(now.folk);
        now.step(p, turn);
        forecast.forget();
        return now.folk.at[p];
    }

    public int judge(int tray, int what) {
        if (!isTray(tray) || what < 0 || what >= walked.length) {
            return NO_SUCH;
        }
        if (trays[tray].size < 0) {
            return MISSING;
        }
        before.copy(now.folk);
        goWalk(trays[tray]);
        now.folk.copy(before);
        return walked[what];
    }

    public int walk(int tray) {
        if (!isTray(tray)) {
            return NO_SUCH;
        }
        if (trays[tray].size < 0) {
            return MISSING;
        }
        before.copy(now.folk);
        int gone = goWalk(trays[tray]);
        if (gone > 0) {
            keep(before);
            forecast.forget();
        }
        return gone;
    }

    public int buy(int p, int n) {
        if (!isPerson(p)) {
            return NO_SUCH;
        }
        if (n < 1 || n > 20) {
            return CANNOT_BE;
        }
        int total = 0;
        for (int i = 0; i < n; i++) {
            total += now.costTo(p, i);
        }
        Folk folk = now.folk;
        if (total > folk.coins[p]) {
            return NOT_NOW;
        }
        if (folk.lefts[p] + n > MOST_LEFTS) {
            return TOO_MANY;
        }
        keep(folk);
        folk.coins[p] -= total;
        folk.lefts[p] += n;
        folk.sold[folk.at[p]] += n;
        forecast.forget();
        return total;
    }

    public int sell(int p) {
        if (!isPerson(p)) {
            return NO_SUCH;
        }
        Folk folk = now.folk;
        if (folk.used[p] == 0) {
            return NOT_NOW;
        }
        keep(folk);
        int total = folk.used[p] * (now.costTo(p, 0) / 3);
        folk.coins[p] = Math.min(MOST_COINS, folk.coins[p] + total);
        folk.used[p] = 0;
        return total;
    }

    public int hand(int p, int q, int n) {
        if (!isPerson(p) || !isPerson(q) || p == q) {
            return NO_SUCH;
        }
        if (n < 1 || n > MOST_LEFTS) {
            return CANNOT_BE;
        }
        Folk folk = now.folk;
        if (folk.at[p] != folk.at[q] || folk.lefts[p] < n) {
            return NOT_NOW;
        }
        if (folk.lefts[q] + n > MOST_LEFTS) {
            return TOO_MANY;
        }
        keep(folk);
        folk.lefts[p] -= n;
        folk.lefts[q] += n;
        return folk.lefts[q];
    }

    public int fog(int c, int n) {
        if (!isCrossing(c)) {
            return NO_SUCH;
        }
        if (n < 1 || n > 99) {
            return CANNOT_BE;
        }
        keep(now.folk);
        now.folk.fogEnds[c] = now.folk.hours + n;
        forecast.forget();
        return Integer.bitCount(now.freeBits(now.folk.hours));
    }

    public int hours(int n) {
        if (n < 1 || n > 99) {
            return CANNOT_BE;
        }
        keep(now.folk);
        now.folk.hours += n;
        forecast.forget();
        return now.folk.hours;
    }

    public int undo(int n) {
        if (n < 1 || n > pastSize) {
            return CANNOT_BE;
        }
        pastSize -= n;
        now.folk.copy(past[(pastFirst + pastSize) % MOST_UNDONE]);
        forecast.forget();
        return pastSize;
    }

    public int week(int seed, int times) {
        if (times < 1 || times > 60) {
            return CANNOT_BE;
        }
        if (now.folk.people == 0) {
            return NOT_NOW;
        }
        before.copy(now.folk);
        this.seed = seed;
        int could = 0;
        for (int i = 0; i < times; i++) {
            if (liveOnce()) {
                could++;
            }
        }
        if (could > 0) {
            keep(before);
            forecast.forget();
        }
        return could;
    }

    // ---- ways

    public int way(int p, int c, int k) {
        if (!isPerson(p) || !isCrossing(c)) {
            return NO_SUCH;
        }
        if (k < 0 || k > MOST_WAY_LEFTS) {
            return CANNOT_BE;
        }
        return spread.fewestStreets(now.folk.stand(p), c, k, MOST_STREETS, 0);
    }

    public int turn(int p, int c, int k, int i) {
        if (!isPerson(p) || !isCrossing(c)) {
            return NO_SUCH;
        }
        if (k < 0 || k > MOST_WAY_LEFTS || i < 0) {
            return CANNOT_BE;
        }
        if (!routes.shortest(now.folk.stand(p), c, k)) {
            return NONE;
        }
        return routes.turnAt(i);
    }

    public int fewest(int p, int c, int n) {
        if (!isPerson(p) || !isCrossing(c)) {
            return NO_SUCH;
        }
        if (n < 0 || n > MOST_STREETS) {
            return CANNOT_BE;
        }
        return spread.fewestLefts(now.folk.stand(p), 0, c, n, 0);
    }

    public int cheapest(int p, int c, int n) {
        if (!isPerson(p) || !isCrossing(c)) {
            return NO_SUCH;
        }
        if (n < 0 || n > MOST_STREETS) {
            return CANNOT_BE;
        }
        return tally.leastCoins(now.folk.stand(p), c, n);
    }

    public long ways(int p, int c, int n, int k) {
        if (!isPerson(p) || !isCrossing(c)) {
            return NO_SUCH;
        }
        if (n < 0 || n > Tally.STREETS || k < 0 || k > Tally.LEFTS) {
            return CANNOT_BE;
        }
        return tally.waysOfJust(now.folk.stand(p), c, n, k);
    }

    public int reach(int p, int k) {
        if (!isPerson(p)) {
            return NO_SUCH;
        }
        if (k < 0 || k > MOST_WAY_LEFTS) {
            return CANNOT_BE;
        }
        return spread.reachable(now.folk.stand(p), k);
    }

    public int enough(int p) {
        if (!isPerson(p)) {
            return NO_SUCH;
        }
        return spread.leastForAll(now.folk.stand(p));
    }

    public int byRights(int c, int direction) {
        if (!isStand(c, direction)) {
            return NO_SUCH;
        }
        return spread.leftByRights(4 * c + direction);
    }

    // ---- errands, corners

    public int round(int p, int tray, int what) {
        if (!isPerson(p) || !isTray(tray) || what < 0 || what > 1 && what < 10) {
            return NO_SUCH;
        }
        Tray told = trays[tray];
        if (told.size < 0) {
            return MISSING;
        }
        if (told.size < 1 || told.size > MOST_STOPS) {
            return TOO_MANY;
        }
        if (!told.allBelow(now.crossings())) {
            return CANNOT_BE;
        }
        rounds.begin(told);
        rounds.tour(0, now.folk.stand(p), 0, 0);
        return rounds.answer(what);
    }

    public int makeFree(int p, int c, int n, int what) {
        if (!isPerson(p) || !isCrossing(c) || what < 0 || what > 1) {
            return NO_SUCH;
        }
        if (n < 0 || n > 20) {
            return CANNOT_BE;
        }
        int corners = spread.cornersToFree(now.folk.stand(p), c, n);
        if (corners < 0) {
            return NONE;
        }
        return what == 0 ? Integer.bitCount(corners) : corners;
    }

    public int bestCorner(int p, int c, int n) {
        if (!isPerson(p) || !isCrossing(c)) {
            return NO_SUCH;
        }
        if (n < 0 || n > 30) {
            return CANNOT_BE;
        }
        int stand = now.folk.stand(p);
        int least = spread.fewestLefts(stand, 0, c, n, 0);
        int best = NONE;
        for (int corner = 0; corner < now.crossings() && least > 0; corner++) {
            int lefts = spread.fewestLefts(stand, 0, c, n, 1 << corner);
            if (lefts < least) {
                least = lefts;
                best = corner;
            }
        }
        return best;
    }

    // ---- dealings

    public int dealing(int c, int direction, int what) {
        if (!isStand(c, direction) || what < 0 || what > 2) {
            return NO_SUCH;
        }
        for (int i = 0; i < DAY; i++) {
            dayPrices[i] = now.cost(c, now.folk.hours + i, now.folk.sold[c], direction);
        }
        int gained = 0;
        int bought = NONE;
        int sold = NONE;
        for (int i = 0; i < DAY; i++) {
            for (int j = i + 1; j < DAY; j++) {
                if (dayPrices[j] - dayPrices[i] > gained) {
                    gained = dayPrices[j] - dayPrices[i];
                    bought = i;
                    sold = j;
                }
            }
        }
        return what == 0 ? gained : what == 1 ? bought : sold;
    }

    public int cheap() {
        int best = NONE;
        int lowest = 0;
        for (int c = 0; c < now.crossings(); c++) {
            int cost = now.cost(c, now.folk.hours, now.folk.sold[c], 0);
            if (best < 0 || cost < lowest) {
                best = c;
                lowest = cost;
            }
        }
        return best;
    }

    public int affords(int p) {
        if (!isPerson(p)) {
            return NO_SUCH;
        }
        int coins = now.folk.coins[p];
        int room = MOST_LEFTS - now.folk.lefts[p];
        int bought = 0;
        while (bought < room) {
            int cost = now.costTo(p, bought);
            if (cost > coins) {
                break;
            }
            coins -= cost;
            bought++;
        }
        return bought;
    }

    // ---- found, chase

    public int found(int p, int tray, int n) {
        if (!isPerson(p) || !isTray(tray)) {
            return NO_SUCH;
        }
        Tray told = trays[tray];
        if (told.size < 0) {
            return MISSING;
        }
        if (told.size > MOST_ENVELOPES) {
            return TOO_MANY;
        }
        if (!told.allBelow(now.crossings()) || n < 0 || n > 30) {
            return CANNOT_BE;
        }
        return spread.whereByEnvelopes(now.folk.stand(p), told, n);
    }

    public int chase(int thief, int thiefHeads, int watch, int watchHeads) {
        if (!isStand(thief, thiefHeads) || !isStand(watch, watchHeads)) {
            return NO_SUCH;
        }
        for (int goings = 0; goings <= MOST_GOINGS; goings++) {
            if ((hunt.catching(4 * thief + thiefHeads, watchHeads, goings) >> watch & 1) != 0) {
                return goings;
            }
        }
        return NONE;
    }

    public int posts(int thief, int thiefHeads, int watchHeads, int n) {
        if (!isStand(thief, thiefHeads) || watchHeads < 0 || watchHeads > 3) {
            return NO_SUCH;
        }
        if (n < 0 || n > MOST_GOINGS) {
            return CANNOT_BE;
        }
        return hunt.catching(4 * thief + thiefHeads, watchHeads, n);
    }

    // ---- trays, images

    public int numbers(int tray, int sort, int n) {
        if (!isTray(tray) || sort < 0 || sort > 3) {
            return NO_SUCH;
        }
        if (n < 0 || n > Tray.PLACES) {
            return CANNOT_BE;
        }
        trays[tray].lay(sort, n);
        return 0;
    }

    public long write(int tray, int i, long v) {
        if (!isTray(tray)) {
            return NO_SUCH;
        }
        Tray told = trays[tray];
        if (told.size < 0) {
            return MISSING;
        }
        if (i < 0 || i >= told.size) {
            return NO_PLACE;
        }
        return told.put(i, v);
    }

    public int lists(int tray, int p, int c, int k) {
        if (!isTray(tray) || !isPerson(p) || !isCrossing(c)) {
            return NO_SUCH;
        }
        Tray told = trays[tray];
        if (told.size < 0) {
            return MISSING;
        }
        if (k < 0 || k > MOST_WAY_LEFTS) {
            return CANNOT_BE;
        }
        if (!routes.shortest(now.folk.stand(p), c, k)) {
            return NOT_NOW;
        }
        int written = Math.min(told.size, 1 + routes.length());
        for (int i = 0; i < written; i++) {
            told.put(i, i == 0 ? p : routes.turnAt(i - 1));
        }
        return written;
    }

    public int image(int i) {
        if (i < 0 || i >= IMAGES) {
            return NO_SUCH;
        }
        images[i].copy(now);
        imageMade[i] = true;
        return 0;
    }

    public int restore(int i) {
        if (i < 0 || i >= IMAGES) {
            return NO_SUCH;
        }
        if (!imageMade[i]) {
            return NOT_NOW;
        }
        now.copy(images[i]);
        startAnew();
        return 0;
    }

    public int count(int what) {
        switch (what) {
            case 0: return now.wide;
            case 1: return now.high;
            case 2: return now.folk.people;
            case 3: return now.folk.hours;
            case 4: return now.folk.allSold();
            case 5: return Integer.bitCount(now.freeBits(now.folk.hours));
            case 6: return pastSize;
            case 7: return reader.fed();
            case 8: return now.lines;
            case 9: return now.folk.allLefts();
            default: return NONE;
        }
    }

    private boolean isPerson(int p) {
        return p >= 0 && p < now.folk.people;
    }

    private boolean isCrossing(int c) {
        return c >= 0 && c < now.crossings();
    }

    private boolean isStand(int c, int direction) {
        return isCrossing(c) && direction >= 0 && direction < 4;
    }

    private static boolean isTray(int tray) {
        return tray >= 0 && tray < TRAYS;
    }

    /** What was worked out or kept of another city is of no use in this one. */
    private void startAnew() {
        pastSize = 0;
        forecast.forget();
        hunt.forget();
    }

    private void keep(Folk folk) {
        if (pastSize == MOST_UNDONE) {
            pastFirst = (pastFirst + 1) % MOST_UNDONE;
            pastSize--;
        }
        past[(pastFirst + pastSize) % MOST_UNDONE].copy(folk);
        pastSize++;
    }

    private int goWalk(Tray told) {
        int p = told.asSmall(0);
        boolean known = isPerson(p);
        int stop = known ? NONE : 0;
        int kind = known ? 0 : 1;
        int lefts = 0;
        int gone = 0;
        for (int i = 1; i < told.size && kind == 0; i++) {
            int turn = told.asSmall(i);
            kind = now.hindrance(p, turn);
            if (kind == 0) {
                lefts += now.step(p, turn);
                gone++;
            } else {
                stop = i;
            }
        }
        walked[0] = stop;
        walked[1] = kind;
        walked[2] = known ? now.folk.at[p] : NONE;
        walked[3] = lefts;
        return gone;
    }

    private int draw() {
        seed = 1103515245 * seed + 12345;
        return seed >>> 16;
    }

    private boolean liveOnce() {
        int kind = draw() % 4;
        if (kind == 3) {
            now.folk.hours++;
            return true;
        }
        int people = now.folk.people;
        int p = people > 0 ? draw() % people : 0;
        if (kind == 2) {
            return now.buysOne(p);
        }
        int turn = draw() % 4;
        if (now.hindrance(p, turn) != 0) {
            return false;
        }
        now.step(p, turn);
        return true;
    }

    /** A law, as numbers, names and joins in the order in which a stack takes them. */
    private static final class Law {
        private static final int FIRST_NAME = 1000;
        private static final int FIRST_JOIN = 2000;
        private static final int BOUND = 1000000;

        static final int X = 1000;
        static final int Y = 1001;
        static final int HOUR = 1002;
        static final int DAYS = 1003;
        static final int SOLD = 1004;
        static final int HEAD = 1005;
        static final int PLUS = 2000;
        static final int MINUS = 2001;
        static final int TIMES = 2002;
        static final int EQUAL = 2003;
        static final int LESS = 2004;
        static final int MORE = 2005;
        static final int AND = 2006;
        static final int OR = 2007;

        private final int[] code = new int[MOST_TEXT];
        /** Six of not [ ( within one another leave at most some forty waiting. */
        private final int[] stack = new int[64];
        private final int[] names = new int[6];
        private int size;
        /** Which names stand in it, as bits. */
        private int named;

        void clear() {
            size = 0;
            named = 0;
        }

        boolean isTold() {
            return size > 0;
        }

        void add(int part) {
            if (size < code.length) {
                code[size] = part;
                size++;
            }
            if (part >= FIRST_NAME && part <= HEAD) {
                named |= 1 << part - FIRST_NAME;
            }
        }

        private boolean asks(int name) {
            return (named >> name - FIRST_NAME & 1) != 0;
        }

        /** The first hour from now for which it says just what it says in t hours. */
        int firstLike(int t) {
            return asks(DAYS) ? t : asks(HOUR) ? t % DAY : 0;
        }

        /** The first direction for which it says just what it says of this one. */
        int firstHeadLike(int head) {
            return asks(HEAD) ? head : 0;
        }

        void copy(Law other) {
            size = other.size;
            named = other.named;
            System.arraycopy(other.code, 0, code, 0, size);
        }

        int value(int x, int y, int hours, int sold, int head) {
            names[0] = x;
            names[1] = y;
            names[2] = hours % DAY;
            names[3] = hours / DAY;
            names[4] = sold;
            names[5] = head;
            int top = 0;
            for (int i = 0; i < size; i++) {
                int part = code[i];
                if (part < FIRST_JOIN) {
                    if (top < stack.length) {
                        stack[top] = part >= FIRST_NAME && part <= HEAD ? names[part - FIRST_NAME] : part;
                        top++;
                    }
                    continue;
                }
                if (top < 2) {
                    continue;
                }
                top--;
                long a = stack[top - 1];
                long b = stack[top];
                long joined;
                switch (part) {
                    case PLUS: joined = a + b; break;
                    case MINUS: joined = a - b; break;
                    case TIMES: joined = a * b; break;
                    case EQUAL: joined = a == b ? 1 : 0; break;
                    case LESS: joined = a < b ? 1 : 0; break;
                    case MORE: joined = a > b ? 1 : 0; break;
                    case AND: joined = a & b; break;
                    default: joined = a | b; break;
                }
                stack[top - 1] = (int) Math.max(-BOUND, Math.min(BOUND, joined));
            }
            return stack[0];
        }
    }

    /** People and all else that deeds change, so that undoing brings it back in one piece. */
    private static final class Folk {
        final int[] at = new int[MOST_PEOPLE];
        final int[] heads = new int[MOST_PEOPLE];
        final int[] lefts = new int[MOST_PEOPLE];
        final int[] coins = new int[MOST_PEOPLE];
        final int[] used = new int[MOST_PEOPLE];
        final int[] sold = new int[MOST_CROSSINGS];
        final int[] fogEnds = new int[MOST_CROSSINGS];
        int people;
        int hours;

        void clear() {
            Arrays.fill(used, 0);
            Arrays.fill(sold, 0);
            Arrays.fill(fogEnds, 0);
            people = 0;
            hours = 0;
        }

        void copy(Folk other) {
            System.arraycopy(other.at, 0, at, 0, MOST_PEOPLE);
            System.arraycopy(other.heads, 0, heads, 0, MOST_PEOPLE);
            System.arraycopy(other.lefts, 0, lefts, 0, MOST_PEOPLE);
            System.arraycopy(other.coins, 0, coins, 0, MOST_PEOPLE);
            System.arraycopy(other.used, 0, used, 0, MOST_PEOPLE);
            System.arraycopy(other.sold, 0, sold, 0, MOST_CROSSINGS);
            System.arraycopy(other.fogEnds, 0, fogEnds, 0, MOST_CROSSINGS);
            people = other.people;
            hours = other.hours;
        }

        void settle(int crossing, int heading, int withLefts, int withCoins) {
            if (people < MOST_PEOPLE) {
                at[people] = crossing;
                heads[people] = heading;
                lefts[people] = withLefts;
                coins[people] = withCoins;
                people++;
            }
        }

        int stand(int p) {
            return 4 * at[p] + heads[p];
        }

        int allSold() {
            int sum = 0;
            for (int c = 0; c < MOST_CROSSINGS; c++) {
                sum += sold[c];
            }
            return sum;
        }

        int allLefts() {
            int sum = 0;
            for (int p = 0; p < people; p++) {
                sum += lefts[p];
            }
            return sum;
        }
    }

    /** Streets, laws and people; a set of crossings is an int with a bit for each. */
    private static final class City {
        final Law priceLaw = new Law();
        final Law mayLaw = new Law();
        final Folk folk = new Folk();
        /** For each direction the crossings from which a street goes that way. */
        final int[] streets = new int[4];
        private final int[] strides = new int[4];
        int wide;
        int high;
        int lines;
        private int toldFree;

        void clear() {
            priceLaw.clear();
            mayLaw.clear();
            folk.clear();
            Arrays.fill(streets, 0);
            Arrays.fill(strides, 0);
            wide = 0;
            high = 0;
            lines = 0;
            toldFree = 0;
        }

        void copy(City other) {
            priceLaw.copy(other.priceLaw);
            mayLaw.copy(other.mayLaw);
            folk.copy(other.folk);
            System.arraycopy(other.streets, 0, streets, 0, 4);
            System.arraycopy(other.strides, 0, strides, 0, 4);
            wide = other.wide;
            high = other.high;
            lines = other.lines;
            toldFree = other.toldFree;
        }

        void lay(int width, int height) {
            wide = width;
            high = height;
            int all = (1 << width * height) - 1;
            int firstColumn = 0;
            for (int y = 0; y < height; y++) {
                firstColumn |= 1 << y * width;
            }
            streets[0] = all & ~((1 << width) - 1);
            streets[1] = all & ~(firstColumn << width - 1);
            streets[2] = all >> width;
            streets[3] = all & ~firstColumn;
            strides[0] = -width;
            strides[1] = 1;
            strides[2] = width;
            strides[3] = -1;
        }

        void block(int c, int d) {
            int next = to(c, d);
            if (next >= 0) {
                streets[d] &= ~(1 << c);
                streets[(d + 2) & 3] &= ~(1 << next);
            }
        }

        void makeToldFree(int c) {
            toldFree |= 1 << c;
        }

        int crossings() {
            return wide * high;
        }

        int to(int c, int d) {
            return (streets[d] >> c & 1) != 0 ? c + strides[d] : NONE;
        }

        /** The stand behind a turn and a street, or NONE. */
        int standAfter(int stand, int turn) {
            int d = (stand + TURNED[turn]) & 3;
            int c = stand >> 2;
            return (streets[d] >> c & 1) != 0 ? 4 * (c + strides[d]) + d : NONE;
        }

        int streetsFrom(int c) {
            int sum = 0;
            for (int d = 0; d < 4; d++) {
                sum += streets[d] >> c & 1;
            }
            return sum;
        }

        /** Where those of a set come who go a street in a direction. */
        int moved(int set, int d) {
            int going = set & streets[d];
            return strides[d] > 0 ? going << strides[d] : going >> -strides[d];
        }

        /** From where a street goes in a direction into a set. */
        int movedBack(int set, int d) {
            int from = strides[d] > 0 ? set >> strides[d] : set << -strides[d];
            return from & streets[d];
        }

        int cost(int c, int hours, int sold, int head) {
            if (wide <= 0 || !priceLaw.isTold()) {
                return 1;
            }
            return Math.max(0, priceLaw.value(c % wide, c / wide, hours, sold, head));
        }

        /** What a left costs a person where it is now, when so many more were sold there. */
        int costTo(int p, int more) {
            int c = folk.at[p];
            return cost(c, folk.hours, folk.sold[c] + more, folk.heads[p]);
        }

        boolean allows(int c, int hours, int head) {
            if (wide <= 0 || !mayLaw.isTold()) {
                return true;
            }
            return mayLaw.value(c % wide, c / wide, hours, folk.sold[c], head) != 0;
        }

        int freeBits(int hours) {
            int free = toldFree;
            for (int c = 0; c < MOST_CROSSINGS; c++) {
                if (folk.fogEnds[c] > hours) {
                    free |= 1 << c;
                }
            }
            return free;
        }

        private int leftsTaken(int c, int turn) {
            if (turn < LEFT || (freeBits(folk.hours) >> c & 1) != 0) {
                return 0;
            }
            return turn - 1;
        }

        /** Why a person can't go by a turn now, 0 if it can. */
        int hindrance(int p, int turn) {
            if (p < 0 || p >= folk.people || turn < 0 || turn > 3) {
                return 1;
            }
            int c = folk.at[p];
            int d = (folk.heads[p] + TURNED[turn]) & 3;
            if (to(c, d) < 0) {
                return 2;
            }
            if (turn >= LEFT && !allows(c, folk.hours, d)) {
                return 3;
            }
            return folk.lefts[p] < leftsTaken(c, turn) ? 4 : 0;
        }

        /** Goes by a turn that nothing hinders; answers the lefts that it took. */
        int step(int p, int turn) {
            int c = folk.at[p];
            int d = (folk.heads[p] + TURNED[turn]) & 3;
            int taken = leftsTaken(c, turn);
            folk.lefts[p] -= taken;
            folk.used[p] = Math.min(MOST_USED, folk.used[p] + taken);
            folk.at[p] = to(c, d);
            folk.heads[p] = d;
            folk.hours++;
            return taken;
        }

        boolean buysOne(int p) {
            int cost = costTo(p, 0);
            if (cost > folk.coins[p] || folk.lefts[p] >= MOST_LEFTS) {
                return false;
            }
            folk.coins[p] -= cost;
            folk.lefts[p]++;
            folk.sold[folk.at[p]]++;
            return true;
        }
    }

    /** Reads a text into a city, token by token, until its first fault. */
    private static final class Reader {
        private static final int NO_TOKEN = 1;
        private static final int OUT_OF_PLACE = 2;
        private static final int OUT_OF_BOUNDS = 3;
        private static final int ONE_TOO_MANY = 4;
        private static final int DEEPEST = 6;

        private static final int END = 0;
        private static final int WORD = 1;
        private static final int NUMBER = 2;
        private static final String SIGNS = ";:+-*()[]=<>";

        private final City city;
        private final byte[] tape = new byte[MOST_TEXT];
        private int fed;
        private int length;
        /** What the token at hand is: END, WORD, NUMBER or the sign itself. */
        private int kind;
        private int start;
        private int end;
        private int number;
        private int fault;
        private int place = NONE;
        private Law law;

        Reader(City city) {
            this.city = city;
            law = city.priceLaw;
        }

        boolean hasRoom() {
            return fed + 20 <= MOST_TEXT;
        }

        int fed() {
            return fed;
        }

        int faultKind() {
            return fault;
        }

        int faultPlace() {
            return place;
        }

        void put(int four) {
            for (int shift = 24; shift >= 0 && fed < MOST_TEXT; shift -= 8) {
                tape[fed] = (byte) (four >> shift);
                fed++;
            }
        }

        int read(int n) {
            city.clear();
            fed = 0;
            length = n;
            end = 0;
            fault = 0;
            place = NONE;
            advance();
            for (int i = 0; i < MOST_TEXT && kind != END; i++) {
                line();
                sign(';');
                city.lines++;
            }
            return fault;
        }

        /** The first fault counts; after it the text is as if it ended, so that nothing reads on. */
        private void fail(int what) {
            if (fault == 0) {
                fault = what;
                place = start;
            }
            kind = END;
        }

        private void advance() {
            if (fault != 0) {
                return;
            }
            start = end;
            while (start < length && (tape[start] == ' ' || tape[start] == '\n')) {
                start++;
            }
            end = start;
            if (start >= length) {
                kind = END;
            } else if (isSmall(start)) {
                kind = WORD;
                while (end < length && isSmall(end)) {
                    end++;
                }
            } else if (isDigit(start)) {
                kind = NUMBER;
                number = 0;
                while (end < length && isDigit(end)) {
                    number = number * 10 + tape[end] - '0';
                    end++;
                }
                if (end - start > 3) {
                    fail(NO_TOKEN);
                }
            } else if (tape[start] > 0 && SIGNS.indexOf((char) tape[start]) >= 0) {
                kind = tape[start];
                end++;
            } else {
                fail(NO_TOKEN);
            }
        }

        private boolean isSmall(int i) {
            return tape[i] >= 'a' && tape[i] <= 'z';
        }

        private boolean isDigit(int i) {
            return tape[i] >= '0' && tape[i] <= '9';
        }

        private boolean isWord(String word) {
            if (kind != WORD || end - start != word.length()) {
                return false;
            }
            for (int i = 0; i < word.length(); i++) {
                if (tape[start + i] != word.charAt(i)) {
                    return false;
                }
            }
            return true;
        }

        private void sign(char due) {
            if (kind == due) {
                advance();
            } else {
                fail(OUT_OF_PLACE);
            }
        }

        private int bounded(int low, int high) {
            if (kind != NUMBER) {
                fail(OUT_OF_PLACE);
                return low;
            }
            if (number < low || number > high) {
                fail(OUT_OF_BOUNDS);
                return low;
            }
            int told = number;
            advance();
            return told;
        }

        private void line() {
            if (isWord("city")) {
                cityLine();
            } else if (isWord("wall")) {
                wallLine();
            } else if (isWord("free")) {
                freeLine();
            } else if (isWord("person")) {
                personLine();
            } else if (isWord("price")) {
                beginLaw(city.priceLaw);
                sum(0);
            } else if (isWord("may")) {
                beginLaw(city.mayLaw);
                truth(0);
            } else if (isWord("hour")) {
                advance();
                city.folk.hours = bounded(0, 999);
            } else {
                fail(OUT_OF_PLACE);
            }
        }

        private void cityLine() {
            if (city.wide > 0) {
                fail(OUT_OF_PLACE);
                return;
            }
            advance();
            int wide = bounded(2, 5);
            int high = bounded(2, 5);
            city.lay(wide, high);
        }

        /** The crossing of a line that can't stand ahead of city. */
        private int crossingTold() {
            if (city.wide <= 0) {
                fail(OUT_OF_PLACE);
                return 0;
            }
            advance();
            int x = bounded(0, city.wide - 1);
            int y = bounded(0, city.high - 1);
            return city.wide * y + x;
        }

        private void wallLine() {
            int c = crossingTold();
            city.block(c, bounded(0, 3));
        }

        private void freeLine() {
            city.makeToldFree(crossingTold());
        }

        private void personLine() {
            if (city.wide > 0 && city.folk.people >= MOST_PEOPLE) {
                fail(ONE_TOO_MANY);
                return;
            }
            int c = crossingTold();
            int heading = heading();
            int lefts = 0;
            int coins = 0;
            if (isWord("lefts")) {
                advance();
                lefts = bounded(0, MOST_LEFTS);
            }
            if (isWord("coins")) {
                advance();
                coins = bounded(0, 999);
            }
            city.folk.settle(c, heading, lefts, coins);
        }

        private int heading() {
            int told = isWord("north") ? 0 : isWord("east") ? 1 : isWord("south") ? 2 : isWord("west") ? 3 : NONE;
            if (told < 0) {
                fail(OUT_OF_PLACE);
                return 0;
            }
            advance();
            return told;
        }

        private void beginLaw(Law told) {
            law = told;
            law.clear();
            advance();
            sign(':');
        }

        /** Of not [ ( so many are open; a seventh is refused, which also bounds the recursion. */
        private boolean tooDeep(int depth) {
            if (depth >= DEEPEST) {
                fail(ONE_TOO_MANY);
                return true;
            }
            return false;
        }

        private void truth(int depth) {
            both(depth);
            for (int i = 0; i < MOST_TEXT && isWord("or"); i++) {
                advance();
                both(depth);
                law.add(Law.OR);
            }
        }

        private void both(int depth) {
            unit(depth);
            for (int i = 0; i < MOST_TEXT && isWord("and"); i++) {
                advance();
                unit(depth);
                law.add(Law.AND);
            }
        }

        private void unit(int depth) {
            if (isWord("not")) {
                if (!tooDeep(depth)) {
                    advance();
                    unit(depth + 1);
                    law.add(0);
                    law.add(Law.EQUAL);
                }
            } else if (kind == '[') {
                if (!tooDeep(depth)) {
                    advance();
                    truth(depth + 1);
                    sign(']');
                }
            } else {
                sum(depth);
                int join = kind == '=' ? Law.EQUAL : kind == '<' ? Law.LESS : kind == '>' ? Law.MORE : NONE;
                if (join < 0) {
                    fail(OUT_OF_PLACE);
                    return;
                }
                advance();
                sum(depth);
                law.add(join);
            }
        }

        private void sum(int depth) {
            term(depth);
            for (int i = 0; i < MOST_TEXT && (kind == '+' || kind == '-'); i++) {
                int join = kind == '+' ? Law.PLUS : Law.MINUS;
                advance();
                term(depth);
                law.add(join);
            }
        }

        private void term(int depth) {
            atom(depth);
            for (int i = 0; i < MOST_TEXT && kind == '*'; i++) {
                advance();
                atom(depth);
                law.add(Law.TIMES);
            }
        }

        private void atom(int depth) {
            if (kind == NUMBER) {
                law.add(number);
                advance();
            } else if (kind == '(') {
                if (!tooDeep(depth)) {
                    advance();
                    sum(depth + 1);
                    sign(')');
                }
            } else {
                int name = isWord("x") ? Law.X : isWord("y") ? Law.Y : isWord("hour") ? Law.HOUR
                    : isWord("day") ? Law.DAYS : isWord("sold") ? Law.SOLD : isWord("head") ? Law.HEAD : NONE;
                if (name < 0) {
                    fail(OUT_OF_PLACE);
                    return;
                }
                law.add(name);
                advance();
            }
        }
    }

    /** What turns take in the hours to come, asked of the laws once for each crossing, direction and hour. */
    private static final class Forecast {
        private static final int HOURS = MOST_STOPS * MOST_STREETS;

        private final City city;
        private final int[] free = new int[HOURS];
        /** By the first hour and direction that are like it: of which crossings it is known, and which allow it. */
        private final int[] asked = new int[4 * HOURS];
        private final int[] allowed = new int[4 * HOURS];
        /** So many hours have been begun since all was forgotten. */
        private int begun;

        Forecast(City city) {
            this.city = city;
        }

        void forget() {
            begun = 0;
        }

        private void beginUpTo(int t) {
            for (; begun <= t; begun++) {
                free[begun] = city.freeBits(city.folk.hours + begun);
                for (int d = 0; d < 4; d++) {
                    asked[4 * begun + d] = 0;
                    allowed[4 * begun + d] = 0;
                }
            }
        }

        int freeAt(int t) {
            beginUpTo(t);
            return free[t];
        }

        /** Those of a set at which the law lets one turn left or back into a direction. */
        int allowing(int t, int d, int set) {
            Law law = city.mayLaw;
            if (!law.isTold() || city.wide <= 0) {
                return set;
            }
            beginUpTo(t);
            int row = 4 * law.firstLike(t) + law.firstHeadLike(d);
            int open = set & ~asked[row];
            for (int c = 0; c < MOST_CROSSINGS && open >> c != 0; c++) {
                if ((open >> c & 1) != 0
                        && law.value(c % city.wide, c / city.wide, city.folk.hours + t, city.folk.sold[c], d) != 0) {
                    allowed[row] |= 1 << c;
                }
            }
            asked[row] |= set;
            return set & allowed[row];
        }

        /** The lefts that a turn takes, NONE if the law forbids it. */
        int lefts(int t, int stand, int turn) {
            if (turn < LEFT) {
                return 0;
            }
            int c = stand >> 2;
            if (allowing(t, (stand + TURNED[turn]) & 3, 1 << c) == 0) {
                return NONE;
            }
            return (freeAt(t) >> c & 1) != 0 ? 0 : turn - 1;
        }
    }

    /** Where one may be, street by street: sets of crossings by lefts taken and heading, all stands going at once. */
    private static final class Spread {
        private static final int ROWS = 4 * (MOST_WAY_LEFTS + 1);

        private final City city;
        private final Forecast forecast;
        private int[] sets = new int[ROWS];
        /** All 0 but while a street is being gone. */
        private int[] nexts = new int[ROWS];
        /** The most lefts of any that is followed. */
        private int top;
        private int streets;
        private final int[] reached = new int[MOST_WAY_LEFTS + 1];

        Spread(City city, Forecast forecast) {
            this.city = city;
            this.forecast = forecast;
        }

        private void begin(int stand) {
            for (int row = 0; row < 4 * top + 4; row++) {
                sets[row] = 0;
            }
            top = 0;
            sets[stand & 3] = 1 << (stand >> 2);
        }

        private void change(int newTop) {
            int[] gone = sets;
            sets = nexts;
            nexts = gone;
            for (int row = 0; row < 4 * top + 4; row++) {
                nexts[row] = 0;
            }
            top = newTop;
        }

        /** Who stands somewhere with more lefts than another one at the same time gets nowhere that he doesn't. */
        private void thin() {
            int highest = 0;
            for (int h = 0; h < 4; h++) {
                int seen = 0;
                for (int lefts = 0; lefts <= top; lefts++) {
                    int set = sets[4 * lefts + h] & ~seen;
                    sets[4 * lefts + h] = set;
                    if (set != 0) {
                        seen |= set;
                        highest = Math.max(highest, lefts);
                    }
                }
            }
            top = highest;
        }

        private int anyHeading(int lefts) {
            int row = 4 * lefts;
            return sets[row] | sets[row + 1] | sets[row + 2] | sets[row + 3];
        }

        private void goByRights(int row) {
            for (int h = 0; h < 4; h++) {
                int set = sets[row + h];
                if (set != 0) {
                    int right = (h + 1) & 3;
                    nexts[row + h] |= city.moved(set, h);
                    nexts[row + right] |= city.moved(set, right);
                }
            }
        }

        /** Lefts and backs of a set of corners, after which one comes into another row. */
        private void goByLeft(int t, int turn, int row, int corners, int nextRow) {
            for (int h = 0; h < 4; h++) {
                int d = (h + TURNED[turn]) & 3;
                int set = sets[row + h] & corners & city.streets[d];
                if (set != 0) {
                    nexts[nextRow + d] |= city.moved(forecast.allowing(t, d, set), d);
                }
            }
        }

        /** A street on, with so many lefts at most, where more corners are free than the city's. */
        private void goOn(int t, int more, int most) {
            int free = forecast.freeAt(t) | more;
            for (int lefts = 0; lefts <= top && lefts <= most; lefts++) {
                int row = 4 * lefts;
                goByRights(row);
                for (int turn = LEFT; turn < 4; turn++) {
                    goByLeft(t, turn, row, free, row);
                    if (lefts + turn - 1 <= most) {
                        goByLeft(t, turn, row, ~free, row + 4 * (turn - 1));
                    }
                }
            }
            change(Math.min(top + 2, most));
            thin();
        }

        /** The fewest lefts with which someone is at a crossing now; NONE if it takes more than the most. */
        private int lowest(int c, int most) {
            for (int lefts = 0; lefts <= top && lefts <= most; lefts++) {
                if ((anyHeading(lefts) >> c & 1) != 0) {
                    return lefts;
                }
            }
            return NONE;
        }

        /** The fewest streets, up to n, to a crossing with k lefts at most; NONE if it can't be. */
        int fewestStreets(int stand, int c, int k, int n, int more) {
            begin(stand);
            for (int i = 0; i <= n; i++) {
                if (lowest(c, k) >= 0) {
                    return i;
                }
                if (i < n) {
                    goOn(i, more, k);
                }
            }
            return NONE;
        }

        /** The fewest lefts within n streets to a crossing; NONE if it can't be. */
        int fewestLefts(int stand, int time, int c, int n, int more) {
            begin(stand);
            int best = NONE;
            int most = MOST_WAY_LEFTS;
            for (int i = 0; i <= n && most >= 0; i++) {
                int lefts = lowest(c, most);
                if (lefts >= 0) {
                    best = lefts;
                    streets = i;
                    most = lefts - 1;
                }
                if (i < n && most >= 0) {
                    goOn(time + i, more, most);
                }
            }
            return best;
        }

        /** In how many streets the fewest lefts were found to do. */
        int streets() {
            return streets;
        }

        private void survey(int stand, int most) {
            Arrays.fill(reached, 0);
            begin(stand);
            for (int i = 0; i <= MOST_STREETS; i++) {
                for (int lefts = 0; lefts <= top; lefts++) {
                    reached[lefts] |= anyHeading(lefts);
                }
                if (i < MOST_STREETS) {
                    goOn(i, 0, most);
                }
            }
        }

        int reachable(int stand, int k) {
            survey(stand, k);
            int set = 0;
            for (int lefts = 0; lefts <= k; lefts++) {
                set |= reached[lefts];
            }
            return set;
        }

        int leastForAll(int stand) {
            survey(stand, MOST_WAY_LEFTS);
            int set = 0;
            int least = 0;
            for (int lefts = 0; lefts <= MOST_WAY_LEFTS; lefts++) {
                if ((reached[lefts] & ~set) != 0) {
                    set |= reached[lefts];
                    least = lefts;
                }
            }
            return least;
        }

        int leftByRights(int stand) {
            int goal = city.to(stand >> 2, (stand + 3) & 3);
            if (goal < 0) {
                return NONE;
            }
            begin(stand);
            for (int i = 1; i <= MOST_STREETS; i++) {
                goByRights(0);
                change(0);
                if ((anyHeading(0) >> goal & 1) != 0) {
                    return i;
                }
            }
            return NONE;
        }

        /** The least set of fewest corners, at most two, that brings one there without lefts; NONE if none does. */
        int cornersToFree(int stand, int c, int n) {
            int size = city.crossings();
            if (fewestStreets(stand, c, 0, n, 0) >= 0) {
                return 0;
            }
            if (fewestStreets(stand, c, 0, n, (1 << size) - 1) < 0) {
                return NONE;
            }
            for (int a = 0; a < size; a++) {
                if (fewestStreets(stand, c, 0, n, 1 << a) >= 0) {
                    return 1 << a;
                }
            }
            for (int b = 1; b < size; b++) {
                for (int a = 0; a < b; a++) {
                    if (fewestStreets(stand, c, 0, n, 1 << a | 1 << b) >= 0) {
                        return 1 << a | 1 << b;
                    }
                }
            }
            return NONE;
        }

        /** Here the rows are by envelopes left behind, and nobody is thinned out: all of them must be left. */
        int whereByEnvelopes(int stand, Tray envelopes, int n) {
            int size = envelopes.size;
            begin(stand);
            for (int i = 0; i < n; i++) {
                int free = forecast.freeAt(i);
                for (int left = 0; left <= top; left++) {
                    goByRights(4 * left);
                    goByLeft(i, LEFT, 4 * left, free, 4 * left);
                    goByLeft(i, LEFT + 1, 4 * left, free, 4 * left);
                    goLeaving(i, left, free, envelopes);
                }
                change(Math.min(top + 2, size));
            }
            return top == size ? anyHeading(size) : 0;
        }

        /** Lefts and backs that leave the envelopes which come next. */
        private void goLeaving(int t, int left, int free, Tray envelopes) {
            int corner = envelopes.asSmall(left);
            if (corner < 0) {
                return;
            }
            int corners = 1 << corner & ~free;
            goByLeft(t, LEFT, 4 * left, corners, 4 * left + 4);
            if (envelopes.asSmall(left + 1) == corner) {
                goByLeft(t, LEFT + 1, 4 * left, corners, 4 * left + 8);
            }
        }
    }

    /** The ways themselves, turn by turn. */
    private static final class Routes {
        private final City city;
        private final Forecast forecast;
        private final Spread spread;
        /**
         * From where one comes to the end in just j streets (fewer than the way has): by the lefts that it takes,
         * 0 to 2 j, and the heading, from place 4 j j on.
         */
        private final int[] back = new int[4 * MOST_STREETS * MOST_STREETS];
        private final int[] turns = new int[MOST_STREETS];
        private int length;
        private int last;

        Routes(City city, Forecast forecast, Spread spread) {
            this.city = city;
            this.forecast = forecast;
            this.spread = spread;
        }

        int length() {
            return length;
        }

        int last() {
            return last;
        }

        /** The i-th turn, NONE if there are not so many. */
        int turnAt(int i) {
            return i >= 0 && i < length ? turns[i] : NONE;
        }

        /** The way with so many lefts at most, of the fewest streets, first by turns. */
        boolean shortest(int stand, int c, int k) {
            int streets = spread.fewestStreets(stand, c, k, MOST_STREETS, 0);
            if (streets < 0) {
                return false;
            }
            trace(stand, 0, c, k, streets);
            return true;
        }

        /** Of the ways of just so many streets with k lefts at most, of which there is one, the first by turns. */
        void trace(int stand, int time, int c, int k, int streets) {
            length = streets;
            lookBack(time, c, k);
            follow(stand, time, k);
        }

        private void lookBack(int time, int c, int k) {
            for (int d = 0; d < 4; d++) {
                back[d] = 1 << c;
            }
            for (int j = 1; j < length; j++) {
                for (int row = 4 * j * j; row < 4 * (j + 1) * (j + 1); row++) {
                    back[row] = 0;
                }
                int behind = 4 * (j - 1) * (j - 1);
                for (int lefts = 0; lefts <= 2 * j - 2 && lefts <= k; lefts++) {
                    for (int d = 0; d < 4; d++) {
                        int from = city.movedBack(back[behind + 4 * lefts + d], d);
                        if (from != 0) {
                            comeFrom(time + length - j, from, d, 4 * j * j + 4 * lefts);
                        }
                    }
                }
                thin(j);
            }
        }

        /** Adds the stands from which one goes into a direction here, each turn from a heading of its own. */
        private void comeFrom(int t, int from, int d, int row) {
            back[row + d] |= from;
            back[row + ((d + 3) & 3)] |= from;
            int free = forecast.freeAt(t);
            int allowed = forecast.allowing(t, d, from);
            back[row + ((d + 1) & 3)] |= allowed & free;
            back[row + ((d + 2) & 3)] |= allowed & free;
            back[row + 4 + ((d + 1) & 3)] |= allowed & ~free;
            back[row + 8 + ((d + 2) & 3)] |= allowed & ~free;
        }

        private void thin(int j) {
            for (int h = 0; h < 4; h++) {
                int seen = 0;
                for (int row = 4 * j * j + h; row < 4 * (j + 1) * (j + 1); row += 4) {
                    back[row] &= ~seen;
                    seen |= back[row];
                }
            }
        }

        private boolean comes(int j, int stand, int lefts) {
            for (int l = 0; l <= 2 * j && l <= lefts; l++) {
                if ((back[4 * (j * j + l) + (stand & 3)] >> (stand >> 2) & 1) != 0) {
                    return true;
                }
            }
            return false;
        }

        private void follow(int stand, int time, int k) {
            int left = k;
            last = stand;
            for (int i = 0; i < length; i++) {
                for (int turn = 0; turn < 4; turn++) {
                    int next = city.standAfter(last, turn);
                    int amount = next < 0 ? NONE : forecast.lefts(time + i, last, turn);
                    if (amount >= 0 && comes(length - i - 1, next, left - amount)) {
                        turns[i] = turn;
                        left -= amount;
                        last = next;
                        break;
                    }
                }
            }
        }
    }

    /** The best order of errands. */
    private static final class Rounds {
        private final Spread spread;
        private final Routes routes;
        private final int[] stops = new int[MOST_STOPS];
        private final int[] order = new int[MOST_STOPS];
        private final int[] bestOrder = new int[MOST_STOPS];
        private int size;
        private int done;
        private boolean any;
        private int bestLefts;
        private int bestStreets;

        Rounds(Spread spread, Routes routes) {
            this.spread = spread;
            this.routes = routes;
        }

        void begin(Tray told) {
            size = Math.min(told.size, MOST_STOPS);
            for (int i = 0; i < size; i++) {
                stops[i] = told.asSmall(i);
            }
            done = 0;
            any = false;
        }

        /** Tries all orders, the first by places first, so that only a better one takes its stead. */
        private void tour(int depth, int stand, int lefts, int streets) {
            if (depth >= size) {
                compare(lefts, streets);
                return;
            }
            for (int i = 0; i < size; i++) {
                if ((done >> i & 1) != 0) {
                    continue;
                }
                int more = spread.fewestLefts(stand, streets, stops[i], MOST_STREETS, 0);
                if (more < 0 || any && lefts + more > bestLefts) {
                    continue;
                }
                routes.trace(stand, streets, stops[i], more, spread.streets());
                order[depth] = i;
                done |= 1 << i;
                tour(depth + 1, routes.last(), lefts + more, streets + routes.length());
                done &= ~(1 << i);
            }
        }

        private void compare(int lefts, int streets) {
            if (any && (lefts > bestLefts || lefts == bestLefts && streets >= bestStreets)) {
                return;
            }
            any = true;
            bestLefts = lefts;
            bestStreets = streets;
            System.arraycopy(order, 0, bestOrder, 0, size);
        }

        int answer(int what) {
            if (!any) {
                return NONE;
            }
            if (what < 10) {
                return what == 0 ? bestLefts : bestStreets;
            }
            int k = what - 10;
            return k < size ? stops[bestOrder[k]] : NONE;
        }
    }

    /** What is summed up along all ways: how many there are, and the coins they cost. */
    private static final class Tally {
        static final int STREETS = 20;
        static final int LEFTS = 40;
        private static final int ROW = LEFTS + 1;
        private static final int FAR = 1 << 30;

        private final City city;
        private final Forecast forecast;
        /** Both by street (even, odd) and stand; ways also by lefts taken. */
        private final long[][] ways = new long[2][STANDS * ROW];
        /** The most lefts of a way to each stand, NONE where there is none and its row of ways is stale. */
        private final int[][] most = new int[2][STANDS];
        private final int[][] coins = new int[2][STANDS];

        Tally(City city, Forecast forecast) {
            this.city = city;
            this.forecast = forecast;
        }

        long waysOfJust(int stand, int c, int n, int k) {
            Arrays.fill(most[0], NONE);
            most[0][stand] = 0;
            ways[0][stand * ROW] = 1;
            for (int i = 0; i < n; i++) {
                addWays(i, k);
            }
            long sum = 0;
            for (int s = 4 * c; s < 4 * c + 4; s++) {
                for (int lefts = 0; lefts <= most[n & 1][s]; lefts++) {
                    sum += ways[n & 1][s * ROW + lefts];
                }
            }
            return sum;
        }

        private void addWays(int i, int k) {
            Arrays.fill(most[(i + 1) & 1], NONE);
            int stands = 4 * city.crossings();
            for (int s = 0; s < stands; s++) {
                for (int turn = 0; turn < 4 && most[i & 1][s] >= 0; turn++) {
                    int next = city.standAfter(s, turn);
                    int amount = next < 0 ? NONE : forecast.lefts(i, s, turn);
                    if (amount >= 0 && amount <= k) {
                        addWaysBy(i, s, next, amount, k);
                    }
                }
            }
        }

        private void addWaysBy(int i, int from, int next, int amount, int k) {
            long[] old = ways[i & 1];
            long[] young = ways[(i + 1) & 1];
            int[] high = most[(i + 1) & 1];
            int top = Math.min(k, most[i & 1][from] + amount);
            for (int lefts = high[next] + 1; lefts <= top; lefts++) {
                young[next * ROW + lefts] = 0;
            }
            high[next] = Math.max(high[next], top);
            for (int lefts = amount; lefts <= top; lefts++) {
                young[next * ROW + lefts] += old[from * ROW + lefts - amount];
            }
        }

        int leastCoins(int stand, int c, int n) {
            Arrays.fill(coins[0], FAR);
            coins[0][stand] = 0;
            int best = FAR;
            for (int i = 0; i <= n && best > 0; i++) {
                for (int s = 4 * c; s < 4 * c + 4; s++) {
                    best = Math.min(best, coins[i & 1][s]);
                }
                if (i < n) {
                    addCoins(i, best);
                }
            }
            return best < FAR ? best : NONE;
        }

        /** Who has paid as much as a way that is known needn't be followed. */
        private void addCoins(int i, int best) {
            int[] old = coins[i & 1];
            int[] young = coins[(i + 1) & 1];
            Arrays.fill(young, FAR);
            int stands = 4 * city.crossings();
            for (int s = 0; s < stands; s++) {
                for (int turn = 0; turn < 4 && old[s] < best; turn++) {
                    int next = city.standAfter(s, turn);
                    int amount = next < 0 ? NONE : forecast.lefts(i, s, turn);
                    if (amount > 0) {
                        int c = s >> 2;
                        amount *= city.cost(c, city.folk.hours + i, city.folk.sold[c], next & 3);
                    }
                    if (amount >= 0) {
                        young[next] = Math.min(young[next], old[s] + amount);
                    }
                }
            }
        }
    }

    /** Watch and thief: from where a watch surely catches, worked out going by going as it is asked. */
    private static final class Hunt {
        private static final int ROW = 4 * STANDS;

        private final City city;
        /** By goings, the thief's stand and the watch's heading: the crossings from which it catches. */
        private final int[] catching = new int[(MOST_GOINGS + 1) * ROW];
        /** The same for the goings at hand, with the watch to go. */
        private final int[] inTurn = new int[ROW];
        private int known;
        /** Whether more goings than are known change nothing. */
        private boolean settled;

        Hunt(City city) {
            this.city = city;
        }

        void forget() {
            known = 0;
            settled = false;
        }

        int catching(int thief, int watchHeads, int goings) {
            while (known <= goings && known <= MOST_GOINGS && !settled) {
                workOut(known);
                settled = known > 0 && isLikeTheLast(known * ROW);
                known++;
            }
            return catching[Math.min(goings, known - 1) * ROW + 4 * thief + watchHeads];
        }

        private boolean isLikeTheLast(int row) {
            for (int i = row; i < row + 16 * city.crossings(); i++) {
                if (catching[i] != catching[i - ROW]) {
                    return false;
                }
            }
            return true;
        }

        private void workOut(int goings) {
            int stands = 4 * city.crossings();
            for (int s = 0; s < stands; s++) {
                for (int h = 0; h < 4; h++) {
                    inTurn[4 * s + h] = 1 << (s >> 2) | (goings > 0 ? watchGoes((goings - 1) * ROW + 4 * s, h) : 0);
                }
            }
            for (int s = 0; s < stands; s++) {
                int straight = city.standAfter(s, 0);
                int right = city.standAfter(s, 1);
                int first = straight >= 0 ? straight : right >= 0 ? right : s;
                int other = right >= 0 ? right : first;
                for (int h = 0; h < 4; h++) {
                    catching[goings * ROW + 4 * s + h] = 1 << (s >> 2) | inTurn[4 * first + h] & inTurn[4 * other + h];
                }
            }
        }

        /** From where a watch that heads so can go to where it surely catches. */
        private int watchGoes(int row, int h) {
            int right = (h + 1) & 3;
            int stuck = ~(city.streets[h] | city.streets[right]);
            return city.movedBack(catching[row + h], h) | city.movedBack(catching[row + right], right)
                | catching[row + h] & stuck;
        }
    }

    /** A row of numbers of one sort. */
    private static final class Tray {
        static final int PLACES = 40;

        private final long[] values = new long[PLACES];
        private int sort;
        /** NONE while the tray is missing. */
        int size = NONE;

        void lay(int newSort, int n) {
            Arrays.fill(values, 0);
            sort = newSort;
            size = n;
        }

        long put(int i, long v) {
            values[i] = sort == 0 ? (byte) v : sort == 1 ? (short) v : sort == 2 ? (int) v : v;
            return values[i];
        }

        /** A number as an int; NONE for one that is missing, below 0 or too high for anything a tray tells. */
        int asSmall(int i) {
            if (i < 0 || i >= size) {
                return NONE;
            }
            int small = (int) values[i];
            return small >= 0 && small == values[i] ? small : NONE;
        }

        boolean allBelow(int limit) {
            for (int i = 0; i < size; i++) {
                if (values[i] < 0 || values[i] >= limit) {
                    return false;
                }
            }
            return true;
        }
    }
}
