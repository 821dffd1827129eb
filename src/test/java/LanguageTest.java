import java.lang.reflect.Field;
import java.lang.reflect.Modifier;
import java.nio.file.Files;
import java.nio.file.Path;
import java.util.ArrayList;
import java.util.List;
import java.util.Set;
import java.util.regex.Matcher;
import java.util.regex.Pattern;

/** What of ../shared/LANGUAGE.md can be read from the class; started where .ci/run stands, at the root. */
public final class LanguageTest {
    private static final Path SOURCE = Path.of("src/main/java/JumpDesk.java");
    private static final String THROWN = "(?:IllegalStateException|IllegalArgumentException|IndexOutOfBoundsException"
        + "|ArithmeticException|UnsupportedOperationException|NoSuchElementException|RuntimeException)";
    /** By rule: what the code, without its comments, holds nowhere. */
    private static final String[][] NEVER = {
        {"1: no package", "\\bpackage\\b"},
        {"1: nothing protected", "\\bprotected\\b"},
        {"2: no lambda", "^(?!\\s*(?:case|default)\\b).*->"},
        {"2: no method reference", "::"},
        {"3: nothing that is not a number", "\\bNaN\\b|\\bInfinity\\b|_INFINITY\\b"},
        {"4: java.util alone", "\\bimport\\b(?! java\\.util\\.(?:ArrayList|List|Arrays|Iterator|NoSuchElementException);)"},
        {"4: of System arraycopy alone", "\\bSystem\\.(?!arraycopy\\()"},
        {"4: of Arrays these alone", "\\bArrays\\.(?!(?:copyOf|copyOfRange|fill)\\()"},
        {"4: of numbers the functions alone", "\\b(?:Integer|Long|Math)\\.(?![a-z]\\w*\\()"},
        {"4: none that ends in Exact", "Exact\\("},
        {"4: no other class of numbers", "\\b(?:Double|Float|Short|Byte|Character|Boolean|BigInteger|BigDecimal)\\b"},
        {"5: no static block", "\\bstatic \\{"},
        {"6: these are thrown alone", "\\bthrow\\b(?! new " + THROWN + "\\()"},
        {"6: these are caught alone", "\\bcatch\\b(?! \\(" + THROWN + " \\w+\\))"},
        {"6: no such words", "\\b(?:finally|synchronized|assert|volatile|native|throws)\\b"},
        {"6: no such calls", "\\.(?:getMessage|printStackTrace|hashCode|getClass)\\("},
        {"13: nothing of the machine", "\\b(?:Thread|Random|Runtime|Scanner|File|Files|Process|Instant|LocalDate)\\b"}
    };
    private static final Pattern METHOD =
        Pattern.compile("^( +)(?:public |private )?(?:static )?[\\w\\[\\]<>]+ \\w+\\(([^()]*)\\) \\{$");
    private static final Set<Class<?>> CONSTANTS = Set.of(int.class, long.class, boolean.class, char.class, String.class,
        int[].class, long[].class, char[].class, byte[].class);

    public static void main(String[] args) throws Exception {
        List<String> lines = Files.readAllLines(SOURCE);
        Due.part("rule 4, signs");
        for (String line : lines) {
            Due.holds(line, line.chars().allMatch(c -> c >= 32 && c < 127));
        }
        String code = String.join("\n", lines).replaceAll("(?s)/\\*.*?\\*/", "").replaceAll("//[^\n]*", "");
        for (String[] never : NEVER) {
            Due.part("rule " + never[0]);
            Matcher met = Pattern.compile(never[1], Pattern.MULTILINE).matcher(code);
            Due.holds(met.find() ? met.group() : "", !met.reset().find());
        }
        Due.part("rule 5, static fields");
        statics();
        Due.part("rule 11, methods");
        methods(code.split("\n"));
        Due.part("rule 11, classes and fields");
        classes();
        Due.end();
    }

    private static List<Class<?>> all() {
        List<Class<?>> all = new ArrayList<>();
        all.add(JumpDesk.class);
        for (int i = 0; i < all.size(); i++) {
            all.addAll(List.of(all.get(i).getDeclaredClasses()));
        }
        return all;
    }

    private static void statics() {
        for (Class<?> of : all()) {
            for (Field f : of.getDeclaredFields()) {
                if (Modifier.isStatic(f.getModifiers()) && !of.isEnum()) {
                    Due.holds(f + " is final", Modifier.isFinal(f.getModifiers()));
                    Class<?> type = f.getType();
                    boolean values = type.isArray() && type.getComponentType().isEnum();
                    Due.holds(f + " is a constant", CONSTANTS.contains(type) || values);
                }
            }
        }
    }

    private static void methods(String[] lines) {
        int seen = 0;
        for (int at = 0; at < lines.length; at++) {
            Matcher method = METHOD.matcher(lines[at]);
            if (!method.matches()) {
                continue;
            }
            seen++;
            int end = at;
            while (end + 1 < lines.length && !lines[end].equals(method.group(1) + "}")) {
                end++;
            }
            Due.holds(lines[at] + " is short", end - at < 65);
            Due.holds(lines[at] + " takes few", method.group(2).split(",").length <= 7);
        }
        Due.holds("the face's methods were seen", seen >= 28);
    }

    private static void classes() {
        Due.holds("some twelve classes", all().size() <= 13);
        for (Class<?> of : all()) {
            int fields = 0;
            for (Field f : of.getDeclaredFields()) {
                fields += Modifier.isStatic(f.getModifiers()) ? 0 : 1;
            }
            Due.holds(of + " has some twenty fields", fields <= 21);
        }
    }
}
