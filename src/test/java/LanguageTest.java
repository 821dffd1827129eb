import java.nio.file.Files;
import java.nio.file.Path;
import java.util.List;
import java.util.regex.Matcher;
import java.util.regex.Pattern;

/** What of ../shared/LANGUAGE.md can be read from the text of the class; started where .ci/run stands, at the root. */
public final class LanguageTest {
    private static final Path SOURCE = Path.of("src/main/java/JumpDesk.java");
    private static final String[] NEVER = {
        "\\bimport\\b", "\\bpackage\\b", "->", "::", "\\bcatch\\b", "\\bthrow\\b", "\\bthrows\\b", "\\bfinally\\b",
        "\\bsynchronized\\b", "\\bassert\\b", "\\bprotected\\b", "\\bdouble\\b", "\\bSystem\\.(?!arraycopy\\b)",
        "Exact\\b", "\\bstatic \\{", "\\bnative\\b", "\\bThread\\b", "\\bRandom\\b", "\\bNaN\\b", "\\[\\]\\["
    };
    private static final Pattern METHOD =
        Pattern.compile("^( +)(?:public |private )?(?:static )?[\\w\\[\\]]+ \\w+\\(([^()]*)\\) \\{$");
    /** Objects and arrays come with the desk: with a field, or with a place in one of the constructor's rows. */
    private static final Pattern MADE = Pattern.compile(
        " *(?:private (?:static )?(?:final )?[\\w\\[\\]]+ \\w+|(?:sheets|jumpers|groups|planes|loads|falls)\\[i\\])"
        + " = new \\w+(?:\\(\\w*\\)|\\[[A-Z_]+(?: [+*] [A-Z_0-9]+)?\\]);");

    public static void main(String[] args) throws Exception {
        List<String> lines = Files.readAllLines(SOURCE);
        Due.part("signs");
        for (String line : lines) {
            Due.holds(line, line.chars().allMatch(c -> c >= 32 && c < 127));
        }
        Due.part("never");
        String code = String.join("\n", lines).replaceAll("(?s)/\\*.*?\\*/", "").replaceAll("//[^\n]*", "");
        for (String never : NEVER) {
            Due.holds(never, !Pattern.compile(never).matcher(code).find());
        }
        Due.part("made");
        for (String line : code.split("\n")) {
            Due.holds(line, !line.contains("new ") || MADE.matcher(line).matches());
        }
        Due.part("methods");
        methods(code.split("\n"));
        Due.end();
    }

    private static void methods(String[] lines) {
        int seen = 0;
        for (int at = 0; at < lines.length; at++) {
            Matcher method = METHOD.matcher(lines[at]);
            if (!method.matches()) {
                continue;
            }
            seen++;
            int end = at;
            while (!lines[end].equals(method.group(1) + "}")) {
                end++;
            }
            Due.holds(lines[at] + " is short", end - at < 60);
            Due.holds(lines[at] + " takes few", method.group(2).split(",").length <= 7);
        }
        Due.holds("methods were seen", seen > 80);
    }
}
