/** A city with a gate: crossings 0 1 2 above 3 4 5, a wall between 1 and 2. */
final class Gate {
    private static final String[] ROUND = {"person 0 0 north;", "person 1 0 east;", "person 1 1 south;", "person 0 1 west;"};

    private Gate() {
    }

    /**
     * The one person goes round by rights, 0 1 4 3, and has no choice. One may turn in a single hour alone, so many hours from
     * the beginning on, and is at 4 then, heading south: by a left there 5 is reached in one street more, and never else.
     */
    static String open(int hours) {
        return "city 3 2;wall 1 0 1;" + ROUND[Math.floorMod(2 - hours, 4)] + "may:day=" + hours / 24 + " and hour=" + hours % 24 + ";";
    }

    /**
     * From 1 there is nothing but back to 0, and from there back to 1; after 59 streets one may turn left to 2 at last. The way
     * takes 119 lefts, more than which none needs: after backs alone one is where one was.
     */
    static String dearest() {
        return "city 2 2;person 1 0 east;wall 1 0 2;may:head=1 or head=3 or day=2 and hour=11;";
    }
}
