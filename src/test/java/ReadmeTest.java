import java.io.ByteArrayOutputStream;
import java.io.PrintStream;
import java.nio.file.Files;
import java.nio.file.Path;
import java.util.regex.Matcher;
import java.util.regex.Pattern;

/** The README shows the example as it is, and what it prints; started where .ci/run stands, at the root. */
public final class ReadmeTest {
    public static void main(String[] args) throws Exception {
        String readme = Files.readString(Path.of("README.md"));
        Due.part("README.md");
        String example = Files.readString(Path.of("src/example/java/FirstLoad.java"));
        Due.holds("shows the example", block(readme, "java").equals(example));
        Due.holds("shows what it prints", block(readme, "text").equals(printed()));
        Due.holds("names the one command for the tests", readme.contains("\n    .ci/run\n"));
        for (java.lang.reflect.Method call : JumpDesk.class.getDeclaredMethods()) {
            if (java.lang.reflect.Modifier.isPublic(call.getModifiers())) {
                Due.holds("tells of " + call.getName(), readme.contains("| `" + call.getName() + "("));
            }
        }
        Due.end();
    }

    private static String block(String readme, String language) {
        Matcher block = Pattern.compile("```" + language + "\n(.*?)```", Pattern.DOTALL).matcher(readme);
        return block.find() ? block.group(1) : "";
    }

    private static String printed() {
        PrintStream out = System.out;
        ByteArrayOutputStream bytes = new ByteArrayOutputStream();
        System.setOut(new PrintStream(bytes));
        FirstLoad.main(new String[0]);
        System.out.flush();
        System.setOut(out);
        return bytes.toString().replace("\r\n", "\n");
    }
}
