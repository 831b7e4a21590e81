import java.io.IOException;
import java.nio.file.Files;
import java.nio.file.Path;
import java.util.ArrayList;
import java.util.List;
import java.util.regex.Matcher;
import java.util.regex.Pattern;

/** Those rules of LANGUAGE.md that can be seen in the text of the class. */
public final class LanguageTests {
    private static final String[] FORBIDDEN = {"->", "::", "\\btry\\b", "\\bcatch\\b", "\\bfinally\\b",
        "\\bsynchronized\\b", "\\bassert\\b", "\\bprotected\\b", "\\bpackage\\b", "\\bDouble\\b", "\\bString\\b",
        "\\bSystem\\.(?!arraycopy)", "\\bMath\\.(?!max\\(|min\\()", "\\bArrays\\.(?!fill\\()", "\\bInteger\\b",
        "\\bLong\\b", "Exact\\b", "\\bstatic \\{", "\\bimport (?!java\\.util\\.Arrays;)", "\\bwhile\\b",
        "\"\\s*\\+", "\\+\\s*\"", "\\bstatic (?!final )[\\w\\[\\]]+ \\w+( =|;)", "[^\\x00-\\x7F]"};
    private static final int LONGEST = 60;

    public static void main(String[] args) throws IOException {
        String text = Files.readString(Path.of("src/main/java/HallGuards.java"));
        String code = text.replaceAll("(?s)/\\*.*?\\*/", "").replaceAll("//[^\n]*", "");
        for (String forbidden : FORBIDDEN) {
            Check.due("rules 1 to 10: " + forbidden, "[]", () -> found(forbidden, code).toString());
        }
        Check.due("rule 6: thrown in written words", List.of(), () -> found(
                "throw(?! new (IllegalStateException|IllegalArgumentException|IndexOutOfBoundsException)\\(\"[^\"]*\"\\);)",
                code.replace("throws", "")));
        Check.due("rule 11: classes", true, () -> found("\\bclass\\b", code).size() <= 12);
        Check.due("rule 11: long methods", List.of(), () -> tooLong(code));
        Check.end("LanguageTests");
    }

    private static List<String> found(String forbidden, String code) {
        List<String> places = new ArrayList<>();
        Matcher matcher = Pattern.compile(forbidden).matcher(code);
        while (matcher.find()) {
            places.add(code.substring(matcher.start(), Math.min(code.length(), matcher.start() + 40)));
        }
        return places;
    }

    /** A method begins with a line that ends with ") {" or "{" behind throws, and ends at its own indent. */
    private static List<String> tooLong(String code) {
        List<String> names = new ArrayList<>();
        String[] lines = code.split("\n");
        for (int begin = 0; begin < lines.length; begin++) {
            String line = lines[begin];
            if (!line.matches("( {4}| {8})(public|private|[a-zA-Z]).*\\(.*")) {
                continue;
            }
            String indent = line.substring(0, line.length() - line.stripLeading().length());
            int end = begin;
            while (end < lines.length && !lines[end].equals(indent + "}")) {
                end++;
            }
            if (line.endsWith("{") && end - begin >= LONGEST) {
                names.add(line.trim());
            }
        }
        return names;
    }
}
