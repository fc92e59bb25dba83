import java.nio.charset.StandardCharsets;
import java.nio.file.Files;
import java.nio.file.Path;
import java.util.List;
import java.util.regex.Matcher;
import java.util.regex.Pattern;

/** Those rules of LANGUAGE.md that can be seen from the words of the source; run from the project's folder. */
public final class LanguageTest {
    private static final Due due = new Due();

    // A pattern of words that the rules leave out, and the rule's number.
    private static final String[][] BANNED = {
        {"\\bpackage\\b|\\bprotected\\b", "1"}, {"->|::|\\bvar\\b", "2"}, {"\\bimport\\b|\\bObject\\b", "4"},
        {"Exact\\(|\\bString\\.|\\bSystem\\.(?!arraycopy)", "4"}, {"\\bstatic\\s*\\{", "5"},
        {"\\btry\\b|\\bcatch\\b|\\bfinally\\b|\\bsynchronized\\b|\\bassert\\b|\\binstanceof\\b", "6"},
        {"\\bequals\\b|\\bhashCode\\b|\\btoString\\b", "6"}, {"\\bwhile\\b", "9"}, {"\"\\s*\\+|\\+\\s*\"", "10"},
        {"Thread|Random|nanoTime|currentTime|File|Socket", "13"}};

    private static final Pattern THROWN = Pattern.compile("throw\\b[^;]*;");
    private static final Pattern ALLOWED = Pattern.compile(
        "throw new (IllegalStateException|IllegalArgumentException|IndexOutOfBoundsException)\\(\"[^\"]*\"\\);");

    public static void main(String[] args) throws Exception {
        Path path = Path.of("src/main/java/Signrope.java");
        String source = Files.readString(path, StandardCharsets.US_ASCII);
        String code = source.replaceAll("(?s)/\\*.*?\\*/", "").replaceAll("//[^\n]*", "");
        for (String[] banned : BANNED) {
            Matcher found = Pattern.compile(banned[0]).matcher(code);
            due.is("rule " + banned[1], "", found.find() ? found.group() : "");
        }
        for (Matcher found = THROWN.matcher(code); found.find();) {
            due.is("rule 6: " + found.group(), true, ALLOWED.matcher(found.group()).matches());
        }
        shortMethods(code.lines().toList());
        due.end();
    }

    private static void shortMethods(List<String> lines) {
        int first = -1;
        for (int line = 0; line < lines.size(); line++) {
            String text = lines.get(line);
            if (text.matches(" {4}(public|private) .*\\(.*") || text.matches(" {8}[a-z].*\\(.*\\) \\{")) {
                first = line;
            }
            if (first >= 0 && (text.equals("    }") || text.equals("        }"))) {
                due.is("rule 11: the method at line " + (first + 1), true, line - first <= 60);
            }
        }
    }
}
