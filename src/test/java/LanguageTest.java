import java.io.IOException;
import java.nio.file.Files;
import java.nio.file.Path;
import java.util.List;
import java.util.Set;
import java.util.TreeSet;
import java.util.regex.Matcher;
import java.util.regex.Pattern;

/** What of LANGUAGE.md can be seen from the text of the class; it is run in the project's folder. */
final class LanguageTest {
    private static final Path FILE = Path.of("src/main/java/BoatCradle.java");
    private static final String[] FORBIDDEN = {
        "->", "::", "\\btry\\b", "\\bcatch\\b", "\\bfinally\\b", "\\bsynchronized\\b", "\\bassert\\b",
        "\\bstatic \\{", "\\bpackage\\b", "\\bprotected\\b", "\\bnative\\b", "\\bvar\\b", "\\bextends\\b",
        "\\bequals\\b", "\\bhashCode\\b", "\\btoString\\b", "\\bSystem\\b", "\\bObject\\b",
    };
    private static final int LONGEST_METHOD = 60;

    public static void main(String[] args) throws IOException {
        String text = Files.readString(FILE);
        String code = text.replaceAll("(?s)/\\*.*?\\*/", "").replaceAll("//[^\n]*", "")
            .replaceAll("\"[^\"\n]*\"", "\"\"");
        for (String forbidden : FORBIDDEN) {
            Expect.due("the text has " + forbidden, false, () -> Pattern.compile(forbidden).matcher(code).find());
        }
        Expect.due("signs other than 10 and 32 to 126", false, () -> Pattern.compile("[^\n -~]").matcher(text).find());
        Expect.due("imports", "[java.util.Arrays, java.util.NoSuchElementException]",
            () -> all(code, "import ([\\w.]+);"));
        Expect.due("the library's functions", "[Arrays.fill, Integer.bitCount, Math.abs, Math.min]",
            () -> all(code, "\\b((?:Arrays|Integer|Math|Long|String|List)\\.\\w+)"));
        Expect.due("static fields that are not final", "[]", () -> all(code, "static ((?!final)\\w+ \\w+(?: =|;))"));
        Expect.due("lines of the longest method, at most " + LONGEST_METHOD, true,
            () -> longestMethod(code.lines().toList()) <= LONGEST_METHOD);
        Expect.end();
    }

    private static Set<String> all(String code, String pattern) {
        Set<String> all = new TreeSet<>();
        Matcher matcher = Pattern.compile(pattern).matcher(code);
        while (matcher.find()) {
            all.add(matcher.group(1));
        }
        return all;
    }

    /** By indentation: a method begins at four or eight columns with a line that ends with ") {" or a throws. */
    private static int longestMethod(List<String> lines) {
        int longest = 0;
        int start = 0;
        for (int line = 0; line < lines.size(); line++) {
            if (lines.get(line).matches(" {4}(?: {4})?[\\w\\[\\]<> ]+\\(.*")) {
                start = line;
            } else if (lines.get(line).matches(" {4}(?: {4})?}")) {
                longest = Math.max(longest, line - start);
            }
        }
        return longest;
    }
}
