import java.io.IOException;
import java.lang.reflect.Method;
import java.lang.reflect.Modifier;
import java.nio.file.Files;
import java.nio.file.Path;
import java.util.regex.Matcher;
import java.util.regex.Pattern;

/** README.md names every method and every test, and the calls of its examples answer what it says. */
final class ReadmeTest {
    private static final Pattern EXAMPLE = Pattern.compile("(?s)```java\n(.*?)```");
    private static final Pattern TEXT = Pattern.compile("for \\(char c : (\".*\")\\.toCharArray\\(\\)\\) s\\.appendCharacter\\(c\\);");
    private static final Pattern CALL = Pattern.compile("s\\.(\\w+\\([^)]*\\)); +// = (-?\\w+)(?:, .*)?");

    public static void main(String[] args) throws IOException {
        String page = Files.readString(Path.of("README.md"));
        everyMethodIsNamed(page);
        everyTestIsNamed(page);
        int examples = 0;
        Matcher example = EXAMPLE.matcher(page);
        while (example.find()) {
            examples++;
            Script.run("README.md, example " + examples, callsOf(example.group(1)));
        }
        Script.due("README.md", "number of examples", examples, 2);
        Script.finish();
    }

    private static void everyMethodIsNamed(String page) {
        for (Method method : FlowletSwitch.class.getDeclaredMethods()) {
            if (Modifier.isPublic(method.getModifiers())) {
                Script.holds("README.md names " + method.getName(), page.contains("`" + method.getName() + "`"));
            }
        }
    }

    private static void everyTestIsNamed(String page) throws IOException {
        try (var files = Files.list(Path.of("src/test/java"))) {
            files.map(file -> file.getFileName().toString()).filter(name -> name.endsWith("Test.java")).forEach(
                    name -> Script.holds("README.md names " + name, page.contains("`" + name.replace(".java", "") + "`")));
        }
    }

    private static String callsOf(String example) {
        StringBuilder calls = new StringBuilder();
        for (String line : example.lines().toList()) {
            Matcher text = TEXT.matcher(line);
            Matcher call = CALL.matcher(line);
            if (text.matches()) {
                calls.append("text(").append(text.group(1)).append(") = ?; ");
            } else if (call.matches()) {
                calls.append(call.group(1)).append(" = ").append(call.group(2)).append("; ");
            } else {
                Script.holds("README.md: " + line, line.startsWith("FlowletSwitch s = new FlowletSwitch();"));
            }
        }
        return calls.toString();
    }
}
