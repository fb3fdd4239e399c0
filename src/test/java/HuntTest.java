/** Promises 34 to 36: envelopes that were found, watch and thief. */
public final class HuntTest {
    private static final Check CHECK = new Check("HuntTest");
    private static final String NARROW = "city 2 2; person 1 0 west;";

    public static void main(String[] args) {
        found();
        foundByLaw();
        foundMany();
        wrongFound();
        chases();
        chasesToTheEnd();
        posts();
        wrongChases();
        CHECK.end();
    }

    private static void due(String call, long got, long want) {
        CHECK.due(call, got, want);
    }

    private static void found(LeftTurns x, int n, int bits, long... envelopes) {
        Check.tray(x, 0, envelopes);
        due("found in " + n + ", " + envelopes.length + " envelopes", x.found(0, 0, n), bits);
    }

    private static void found() {
        LeftTurns x = Check.city(NARROW);
        found(x, 0, 2);
        found(x, 0, 0, 1);
        found(x, 1, 1);
        found(x, 1, 8, 1);
        found(x, 1, 0, 1, 1);
        found(x, 1, 0, 0);
        found(x, 2, 0);
        found(x, 2, 4, 0);
        found(x, 2, 2, 0, 0);
        found(x, 2, 4, 1);
        found(x, 3, 8, 0, 2);
        found(x, 3, 0, 2, 0);
        found(x, 3, 8, 0, 0);
        found(x, 3, 1, 1);
        LeftTurns y = Check.city(NARROW + " free 1 0;");
        found(y, 1, 9);
        found(y, 1, 0, 1);
        found(y, 2, 4);
        found(y, 2, 4, 0);
        due("nothing has changed", y.person(0, 0), 1);
    }

    private static void foundByLaw() {
        LeftTurns x = Check.city(NARROW + " may: hour = 1 and head = 2;");
        found(x, 1, 0, 1);
        found(x, 2, 4, 0);
        found(x, 2, 0, 0, 0);
        LeftTurns y = Check.city(NARROW);
        y.fog(0, 1);
        found(y, 2, 4, 0);
        y.fog(0, 2);
        found(y, 2, 0, 0);
        found(y, 2, 6);
    }

    private static void foundMany() {
        // Back and forth between 4 and 1, then 4 again: five backs leave ten envelopes.
        LeftTurns x = Check.city("city 3 3; person 1 1 south;");
        found(x, 5, 2, 4, 4, 1, 1, 4, 4, 1, 1, 4, 4);
        found(x, 5, 0, 4, 4, 1, 1, 4, 4, 1, 4, 1, 4);
        // Of thirty streets those by straight on and right alone go round, and come by all of one colour.
        found(x, 30, 1 + 4 + 16 + 64 + 256);
    }

    private static void wrongFound() {
        LeftTurns x = Check.city(NARROW);
        due("missing", x.found(0, 0, 0), -6);
        due("missing, ahead of n", x.found(0, 0, -1), -6);
        due("nobody", x.found(1, 0, 0), -2);
        due("nobody", x.found(-1, 0, 0), -2);
        due("no tray", x.found(0, 4, 0), -2);
        due("no tray", x.found(0, -1, 0), -2);
        found(x, 0, -4, 9, 0, 0, 0, 0, 0, 0, 0, 0, 0, 0);
        found(x, 0, -3, 4);
        found(x, 0, -3, -1);
        found(x, 0, -3, 1L << 32);
        found(x, -1, -3);
        found(x, 31, -3);
        found(x, 30, 0);
    }

    private static void chases() {
        LeftTurns x = Check.city(NARROW + " may: 0 = 1; free 0 0;");
        due("at one crossing", x.chase(0, 1, 0, 3), 0);
        due("the thief goes there", x.chase(1, 3, 0, 2), 0);
        due("the thief hides at 2", x.chase(0, 1, 1, 2), 2);
        due("the watch is stuck", x.chase(0, 1, 3, 0), -1);
        due("the thief is stuck", x.chase(2, 2, 3, 3), 1);
        due("both are stuck", x.chase(2, 2, 1, 0), -1);
        due("behind him", x.chase(2, 2, 0, 2), 1);
        due("by two", x.chase(2, 2, 1, 2), 2);
        LeftTurns y = Check.city("city 3 3;");
        due("asked twice, the same", y.chase(4, 0, 8, 3), y.chase(4, 0, 8, 3));
        // A city read anew is hunted anew.
        Check.read(x, "city 2 2; wall 0 0 2;");
        due("with a wall", x.chase(2, 2, 0, 2), -1);
        x.image(0);
        Check.read(x, NARROW);
        due("without", x.chase(2, 2, 0, 2), 1);
        x.restore(0);
        due("with it again", x.chase(2, 2, 0, 2), -1);
    }

    /** In this city some chases take all of 30 goings. */
    private static void chasesToTheEnd() {
        String text = "city 4 5; wall 0 3 1;";
        LeftTurns x = Check.city(text);
        Model model = Check.model(text);
        int longest = 0;
        for (int i = 0; i < 80; i++) {
            for (int j = i % 7; j < 80; j += 7) {
                int goings = x.chase(i / 4, i % 4, j / 4, j % 4);
                due("chase " + i + " " + j, goings, model.chase(i / 4, i % 4, j / 4, j % 4));
                longest = Math.max(longest, goings);
            }
        }
        due("the longest", longest, 30);
    }

    private static void posts() {
        LeftTurns x = Check.city(NARROW);
        due("where the thief is", x.posts(0, 1, 2, 0), 1);
        due("and where he goes", x.posts(1, 3, 0, 0), 3);
        due("westward in none", x.posts(2, 2, 3, 0), 4);
        due("westward in one", x.posts(2, 2, 3, 1), 12);
        due("southward in one", x.posts(2, 2, 2, 1), 13);
        due("southward in two", x.posts(2, 2, 2, 2), 15);
        due("southward in thirty", x.posts(2, 2, 2, 30), 15);
        for (int c = 0; c < 4; c++) {
            for (int h = 0; h < 4; h++) {
                int goings = x.chase(0, 1, c, h);
                for (int n = 0; n <= 30; n++) {
                    due("posts and chase agree", x.posts(0, 1, h, n) >> c & 1, goings >= 0 && goings <= n ? 1 : 0);
                }
            }
        }
    }

    private static void wrongChases() {
        LeftTurns x = Check.city(NARROW);
        int[][] wrong = {{4, 0, 0, 0}, {-1, 0, 0, 0}, {0, 4, 0, 0}, {0, -1, 0, 0}, {0, 0, 4, 0}, {0, 0, -1, 0}, {0, 0, 0, 4},
            {0, 0, 0, -1}};
        for (int[] w : wrong) {
            due("chase", x.chase(w[0], w[1], w[2], w[3]), -2);
        }
        due("posts", x.posts(4, 0, 0, 0), -2);
        due("posts", x.posts(-1, 0, 0, 0), -2);
        due("posts", x.posts(0, 4, 0, 0), -2);
        due("posts", x.posts(0, -1, 0, 0), -2);
        due("posts", x.posts(0, 0, 4, -1), -2);
        due("posts", x.posts(0, 0, -1, 0), -2);
        due("posts", x.posts(0, 0, 0, -1), -3);
        due("posts", x.posts(0, 0, 0, 31), -3);
    }
}
