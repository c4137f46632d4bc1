import java.io.IOException;
import java.nio.file.Files;
import java.nio.file.Path;
import java.util.List;
import java.util.Map;
import java.util.TreeMap;
import java.util.regex.Matcher;
import java.util.regex.Pattern;

/** The text of the class without its comments, and its methods and constructors as "Class.method". */
final class ClassSource {
    private static final Path FILE = Path.of("src/main/java/FlowletSwitch.java");
    private static final Pattern CLASS = Pattern.compile(" *(?:\\w+ )*class (\\w+) \\{");
    private static final Pattern METHOD = Pattern.compile("( {4}| {8})(?:[\\w\\[\\]]+ )*(\\w+)\\([^)]*\\) \\{");
    private static final Pattern CALL = Pattern.compile("(\\.)?\\b(\\w+)\\(");

    private final String code;
    private final Map<String, String> bodies = new TreeMap<>();

    ClassSource() throws IOException {
        code = Files.readString(FILE).replaceAll("(?s)/\\*.*?\\*/", "").replaceAll("//[^\n]*", "");
        List<String> lines = code.lines().toList();
        String nested = "";
        for (int i = 0; i < lines.size(); i++) {
            Matcher owner = CLASS.matcher(lines.get(i));
            Matcher method = METHOD.matcher(lines.get(i));
            if (owner.matches()) {
                nested = owner.group(1);
            } else if (method.matches()) {
                boolean face = method.group(1).length() == 4;
                int end = lines.subList(i, lines.size()).indexOf(method.group(1) + "}");
                bodies.put((face ? "FlowletSwitch" : nested) + "." + method.group(2),
                        String.join("\n", lines.subList(i + 1, i + end)));
            }
        }
    }

    String code() {
        return code;
    }

    Map<String, String> bodies() {
        return bodies;
    }

    static boolean isConstructor(String method) {
        return method.matches("(\\w+)\\.\\1");
    }

    /** How many calls stand open at most when the method runs, its own included; endless recursion ends at 100. */
    int depth(String method, int open) {
        int deepest = open;
        Matcher call = CALL.matcher(bodies.get(method));
        while (open < 100 && call.find()) {
            for (String callee : bodies.keySet()) {
                if (means(method, call.group(1) != null, call.group(2), callee)) {
                    deepest = Math.max(deepest, depth(callee, open + 1));
                }
            }
        }
        return deepest;
    }

    /** A call behind a dot goes to another class; one without to the own class, a constructor, or the face's. */
    private boolean means(String caller, boolean behindDot, String name, String callee) {
        String owner = caller.substring(0, caller.indexOf('.'));
        if (behindDot) {
            return callee.endsWith("." + name) && !callee.startsWith(owner + ".");
        }
        return callee.equals(owner + "." + name) || callee.equals(name + "." + name)
                || callee.equals("FlowletSwitch." + name);
    }
}
