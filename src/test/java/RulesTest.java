import java.io.IOException;
import java.nio.file.Files;
import java.nio.file.Path;
import java.util.List;
import java.util.regex.Matcher;
import java.util.regex.Pattern;

/** What can be seen of ../shared/LANGUAGE.md's rules in the source's own words. Runs in the project's directory. */
public final class RulesTest {
    private static final Check CHECK = new Check("RulesTest");

    public static void main(String[] args) throws IOException {
        String source = Files.readString(Path.of("src/main/java/LeftTurns.java"));
        String code = source.replaceAll("(?s)/\\*.*?\\*/", "").replaceAll("//[^\n]*", "").replaceAll("\"[^\"\n]*\"", "\"\"");
        words(code);
        library(code);
        statics(code);
        methods(code);
        rows(code);
        CHECK.end();
    }

    private static void none(String code, String pattern) {
        Matcher m = Pattern.compile(pattern).matcher(code);
        CHECK.due("'" + pattern + "' stands in the source", m.find() ? 1 : 0, 0);
    }

    private static void words(String code) {
        String[] never = {"throw", "throws", "try", "catch", "synchronized", "assert", "protected", "package", "volatile",
            "transient", "native", "record", "var", "double", "float", "String\\.format", "System\\.out", "Math\\.random",
            "\\w+Exact", "yield", "instanceof", "finally", "interface", "abstract", "hashCode", "toString"};
        for (String word : never) {
            none(code, "\\b" + word + "\\b");
        }
        none(code, "->");
        none(code, "::");
        none(code, "\\+ *\"\"|\"\" *\\+");
        none(code, "\\b(while|for) *\\((true|;;)");
        none(code, "import (?!java\\.util\\.Arrays;)");
        none(code, "(?m)^\\s*static *\\{");
        for (char c : code.toCharArray()) {
            if (c > 126) {
                CHECK.due("a sign beyond 126", c, 0);
            }
        }
    }

    /** Of the library the class needs no more than this; all of it stands in rule 4. */
    private static void library(String code) {
        List<String> known = List.of("Integer.bitCount", "Math.max", "Math.min", "Arrays.fill", "System.arraycopy");
        Matcher m = Pattern.compile("\\b(Integer|Long|Math|Arrays|System|Character|Object|String|StringBuilder)\\.\\w+").matcher(code);
        while (m.find()) {
            CHECK.due("the library's " + m.group() + " may be used", known.contains(m.group()));
        }
    }

    private static void statics(String code) {
        Matcher m = Pattern.compile("(?m)^.*\\bstatic\\b.*[;=].*$").matcher(code);
        while (m.find()) {
            String line = m.group();
            if (line.contains("(") && !line.contains("=")) {
                continue;
            }
            boolean constant = line.matches("\\s*(public |private )?static final (int|long|String|int\\[\\]) [A-Z_0-9]+ = .*;");
            CHECK.due("a constant: " + line, constant ? 1 : 0, 1);
        }
    }

    /** Objects and arrays are made with the object that keeps them, and in no other call. */
    private static void rows(String code) {
        int from = code.indexOf("    public LeftTurns() {");
        int to = code.indexOf("\n    }", from);
        String others = code.substring(0, from) + code.substring(to);
        for (String line : others.split("\n")) {
            boolean field = line.matches(" {8}(private )?(final )?[\\w\\[\\]]+ \\w+ = new .*;");
            CHECK.due("made in a call: " + line, line.matches(".*\\bnew\\b.*|.*\\.clone\\b.*|.*copyOf.*") && !field ? 1 : 0, 0);
        }
    }

    private static void methods(String code) {
        String[] lines = code.split("\n");
        int begun = -1;
        String indent = "";
        for (int i = 0; i < lines.length; i++) {
            String line = lines[i];
            if (begun < 0 && line.matches("    (    )?\\S.*\\) \\{") && !line.matches(".*\\b(if|for|while|switch|else)\\b.*")) {
                begun = i;
                indent = line.replaceFirst("\\S.*", "");
            } else if (begun >= 0 && line.equals(indent + "}")) {
                CHECK.due("at most sixty lines: " + lines[begun].trim(), i - begun + 1 <= 60 ? 1 : 0, 1);
                begun = -1;
            }
        }
    }
}
