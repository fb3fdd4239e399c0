import java.util.ArrayList;
import java.util.List;
import java.util.function.Consumer;

/**
 * All walks of person 0 up to so many streets, each judged by an object of its own. The person must have lefts enough for
 * all of them, as ways don't ask for lefts to be had, and walks do.
 */
final class AllWalks {
    /** Where it leads, what it takes, where an envelope was left for each left, what they cost if paid where one turned. */
    record Walk(String turns, int crossing, int lefts, List<Integer> envelopes, int coins) {
    }

    /** Cities in which hours, laws, free corners and walls all matter within a few streets. */
    static final String[] CITIES = {
        "city 3 3;wall 1 1 1;free 0 0;person 1 1 north lefts 50;price:1+hour+3*head+x;may:not [head=2 and hour=1];hour 23;",
        "city 2 3;wall 0 2 0;free 1 1;person 0 1 east lefts 50 coins 9;price:7-hour+y*2;may:hour<7 or head=0;hour 3;",
        "city 4 2;wall 2 0 2;person 1 1 west lefts 50;price:9-4*hour;may:head<3 or x>1;",
        "city 3 2;person 2 0 west lefts 50;",
        "city 3 2;wall 1 1 0;person 0 0 north lefts 50;may:not hour=0;"};
    /** Where later turns must keep within what earlier ones leave, and the largest city. */
    static final String[] WIDE_CITIES = {
        "city 3 3;wall 0 0 2;free 2 1;person 0 1 west lefts 50;",
        "city 3 3;wall 0 1 0;wall 2 0 3;wall 2 1 0;wall 2 1 1;free 1 2;person 1 0 north lefts 50;",
        "city 3 3;wall 2 2 3;person 2 2 west lefts 50;may:not head=3;",
        "city 5 5;person 4 4 north lefts 50;price:1+head+hour;hour 22;"};

    static List<String> allCities() {
        List<String> all = new ArrayList<>(List.of(CITIES));
        all.addAll(List.of(WIDE_CITIES));
        return all;
    }

    private final Consumer<LeftTurns> telling;
    final List<Walk> walks = new ArrayList<>();

    AllWalks(Consumer<LeftTurns> telling, int most) {
        this.telling = telling;
        List<Walk> layer = List.of(new Walk("", told().person(0, 0), 0, List.of(), 0));
        for (int i = 0; i <= most; i++) {
            walks.addAll(layer);
            layer = longerBy(layer);
        }
    }

    AllWalks(String text, int most) {
        this(x -> Check.read(x, text), most);
    }

    private LeftTurns told() {
        LeftTurns x = new LeftTurns();
        telling.accept(x);
        return x;
    }

    /** In the order of their turns, if the shorter ones are. */
    private List<Walk> longerBy(List<Walk> layer) {
        List<Walk> longer = new ArrayList<>();
        for (Walk walk : layer) {
            for (int turn = 0; turn < 4; turn++) {
                Walk next = judged(walk, turn);
                if (next != null) {
                    longer.add(next);
                }
            }
        }
        return longer;
    }

    private Walk judged(Walk walk, int turn) {
        LeftTurns x = told();
        String turns = walk.turns + turn;
        x.numbers(0, 0, 1 + turns.length());
        for (int i = 0; i < turns.length(); i++) {
            x.write(0, i + 1, turns.charAt(i) - '0');
        }
        if (x.judge(0, 0) != LeftTurns.NONE) {
            return null;
        }
        int crossing = x.judge(0, 2);
        int lefts = x.judge(0, 3);
        int direction = 0;
        while (x.street(walk.crossing, direction) != crossing) {
            direction++;
        }
        int coins = walk.coins + (lefts - walk.lefts) * x.price(walk.crossing, direction, walk.turns.length());
        List<Integer> envelopes = new ArrayList<>(walk.envelopes);
        for (int i = walk.lefts; i < lefts; i++) {
            envelopes.add(walk.crossing);
        }
        return new Walk(turns, crossing, lefts, envelopes, coins);
    }

    /** The fewest streets first, of these the first by turns; null if none of them leads there with so few lefts. */
    Walk way(int c, int k) {
        for (Walk walk : walks) {
            if (walk.crossing == c && walk.lefts <= k) {
                return walk;
            }
        }
        return null;
    }

    /** Those of at most so many streets that lead there. */
    List<Walk> to(int c, int streets) {
        List<Walk> there = new ArrayList<>();
        for (Walk walk : walks) {
            if (walk.crossing == c && walk.turns.length() <= streets) {
                there.add(walk);
            }
        }
        return there;
    }

    int fewest(int c, int streets) {
        int least = LeftTurns.NONE;
        for (Walk walk : to(c, streets)) {
            least = least < 0 ? walk.lefts : Math.min(least, walk.lefts);
        }
        return least;
    }

    int cheapest(int c, int streets) {
        int least = LeftTurns.NONE;
        for (Walk walk : to(c, streets)) {
            least = least < 0 ? walk.coins : Math.min(least, walk.coins);
        }
        return least;
    }

    int count(int c, int streets, int k) {
        int many = 0;
        for (Walk walk : to(c, streets)) {
            many += walk.turns.length() == streets && walk.lefts <= k ? 1 : 0;
        }
        return many;
    }

    int found(List<Integer> envelopes, int streets) {
        int bits = 0;
        for (Walk walk : walks) {
            if (walk.turns.length() == streets && walk.envelopes.equals(envelopes)) {
                bits |= 1 << walk.crossing;
            }
        }
        return bits;
    }
}
