import java.io.IOException;
import java.nio.file.Files;
import java.nio.file.Path;

/**
 * Follows ../shared/DOC.md from its first line to its last, sentence by sentence, each with calls of its own. A sentence that
 * is taken up by nothing here fails the test. Runs in the project's directory.
 */
public final class DocumentTest {
    private static final Check CHECK = new Check("DocumentTest");

    private final Document doc;
    private final String source;

    private DocumentTest(Document doc, String source) {
        this.doc = doc;
        this.source = source;
    }

    public static void main(String[] args) throws IOException {
        Document doc = new Document(CHECK, Path.of("../shared/DOC.md"));
        String source = Files.readString(Path.of("src/main/java/LeftTurns.java"));
        new DocumentTest(doc, source).follow();
        CHECK.end();
    }

    private void follow() {
        whatItIs();
        face();
        doc.passes("## Terms");
        new DocumentTexts(CHECK, doc).follow();
        new DocumentDeeds(CHECK, doc).follow();
        new DocumentWays(CHECK, doc).follow();
        constants();
        interfaceSays();
        new DocumentPromises(CHECK, doc).follow();
        new DocumentMorePromises(CHECK, doc).follow();
        notPromised();
        doc.ends();
    }

    private void whatItIs() {
        doc.passes("# LeftTurns ## What it is");
        doc.passes("A market of left turns: a city told as a text, of crossings on a square net, walls between, corners where a left is"
            + " free, people with headings, lefts in envelopes and coins, laws in a language of what a left costs there by the hour and"
            + " whether one may be turned; streets gone by straight, right, left, back; lefts bought, used ones sold for a third, handed"
            + " over, fogs, hours; told walks judged and gone, undone, weeks by draws; ways with so many lefts at most, with the fewest,"
            + " the cheapest, first by turns; where nobody gets without, rounds of errands, corners to be made free, how a left is made"
            + " by rights; dealings by the hour, who could have been where by envelopes that were found, watch and thief who go"
            + " clockwise; images to go on from. ==== 1.");
        doc.says("An object is used for at most 512 calls after it has been made; what later calls answer is free.");
        LeftTurns x = new LeftTurns();
        for (int i = 1; i <= 512; i++) {
            CHECK.due("call " + i, x.hours(1), i);
        }
    }

    /** The document's line, as it stands in the source. */
    private void declared(String line) {
        doc.says(line + ";");
        CHECK.due("the source has " + line, source.contains("\n    " + line + " {\n"));
    }

    private void face() {
        doc.passes("## The public face ```java");
        doc.says("public final class LeftTurns {");
        CHECK.due("the class", source.contains("\npublic final class LeftTurns {\n"));
        doc.says("public static final int NONE = -1;");
        CHECK.due("NONE in the source", source.contains("\n    public static final int NONE = -1;\n"));
        String[] lines = {"public LeftTurns()", "public int feed(int a, int b, int c, int d, int e)", "public int city(int n)",
            "public int fault(int what)", "public int person(int p, int what)", "public int street(int c, int direction)",
            "public int crossing(int c, int what)", "public int price(int c, int direction, int n)", "public int why(int p, int turn)",
            "public int go(int p, int turn)", "public int judge(int tray, int what)", "public int walk(int tray)",
            "public int buy(int p, int n)", "public int sell(int p)", "public int hand(int p, int q, int n)",
            "public int fog(int c, int n)", "public int hours(int n)", "public int undo(int n)", "public int week(int seed, int times)",
            "public int way(int p, int c, int k)", "public int turn(int p, int c, int k, int i)", "public int fewest(int p, int c, int n)",
            "public int cheapest(int p, int c, int n)", "public long ways(int p, int c, int n, int k)", "public int reach(int p, int k)",
            "public int enough(int p)", "public int byRights(int c, int direction)", "public int round(int p, int tray, int what)",
            "public int makeFree(int p, int c, int n, int what)", "public int bestCorner(int p, int c, int n)",
            "public int dealing(int c, int direction, int what)", "public int cheap()", "public int affords(int p)",
            "public int found(int p, int tray, int n)", "public int chase(int thief, int thiefHeads, int watch, int watchHeads)",
            "public int posts(int thief, int thiefHeads, int watchHeads, int n)", "public int numbers(int tray, int sort, int n)",
            "public long write(int tray, int i, long v)", "public int lists(int tray, int p, int c, int k)", "public int image(int i)",
            "public int restore(int i)", "public int count(int what)"};
        for (String line : lines) {
            declared(line);
        }
        doc.passes("} ```");
    }

    private void constants() {
        doc.says("The constants: `NONE = -1`: There is none.");
        CHECK.due("NONE", LeftTurns.NONE, -1);
        CHECK.due("there is none", Check.city("city 2 2;").street(0, 0), LeftTurns.NONE);
    }

    /** The source has the words once, ahead of these calls and behind the last ones. */
    private void ahead(String words, String... calls) {
        StringBuilder told = new StringBuilder("Ahead of the calls ");
        int at = source.indexOf("\n    // " + words + "\n");
        CHECK.due("the source has " + words, at >= 0);
        for (int i = 0; i < calls.length; i++) {
            told.append(i > 0 ? ", " : "").append('`').append(calls[i]).append('`');
            int next = source.indexOf(" " + calls[i] + "(", at);
            CHECK.due(calls[i] + " comes next", next > at && source.indexOf("\n    public ", at) == source.lastIndexOf("\n    public ", next));
            at = next;
        }
        doc.says(told + " the interface says: " + words + ".");
    }

    private void interfaceSays() {
        ahead("---- the city", "feed", "city", "fault", "person", "street", "crossing", "price", "why");
        ahead("---- deeds", "go", "judge", "walk", "buy", "sell", "hand", "fog", "hours", "undo", "week");
        ahead("---- ways", "way", "turn", "fewest", "cheapest", "ways", "reach", "enough", "byRights");
        ahead("---- errands, corners", "round", "makeFree", "bestCorner");
        ahead("---- dealings", "dealing", "cheap", "affords");
        ahead("---- found, chase", "found", "chase", "posts");
        ahead("---- trays, images", "numbers", "write", "lists", "image", "restore", "count");
    }

    private void notPromised() {
        doc.passes("## Not promised");
        doc.passes("How the state is held inside the object is free, as are the speed of each call, the text of toString and the behaviour"
            + " of equals and hashCode. Use of one object from several threads at once is not promised to be safe. Nothing is promised"
            + " beyond the answers and state changes described above, and nothing about an object after its 512th call.");
    }
}
