import java.io.IOException;
import java.lang.reflect.Constructor;
import java.lang.reflect.Field;
import java.lang.reflect.Method;
import java.lang.reflect.Modifier;
import java.nio.file.Files;
import java.nio.file.Path;
import java.util.Arrays;
import java.util.Set;
import java.util.TreeSet;
import java.util.regex.Matcher;
import java.util.regex.Pattern;
import java.util.stream.Collectors;

/** The public face as the document has it, no more and no less. */
final class FaceTest {
    private static final Path DOCUMENT = Path.of("../shared/DOC.md");

    public static void main(String[] args) throws IOException {
        constants();
        membersAreThoseOfTheDocument();
        Script.finish();
    }

    private static void constants() {
        Script.due("face", "INVALID_ARGUMENT", FlowletSwitch.INVALID_ARGUMENT, -1);
        Script.due("face", "ILLEGAL_STATE", FlowletSwitch.ILLEGAL_STATE, -2);
        Script.due("face", "CAPACITY_EXCEEDED", FlowletSwitch.CAPACITY_EXCEEDED, -3);
        Script.due("face", "NONE", FlowletSwitch.NONE, -9);
    }

    private static void membersAreThoseOfTheDocument() throws IOException {
        Set<String> due = new TreeSet<>();
        Matcher line = Pattern.compile("(?m)^    (public [^=;]*?)(?: = -\\d+)?;$").matcher(Files.readString(DOCUMENT));
        while (line.find()) {
            due.add(line.group(1).replaceAll("int \\w+(?=[,)])", "int"));
        }
        Set<String> got = new TreeSet<>();
        for (Field field : FlowletSwitch.class.getDeclaredFields()) {
            addUnlessPrivate(got, field.getModifiers(), "int " + field.getName());
        }
        for (Method method : FlowletSwitch.class.getDeclaredMethods()) {
            addUnlessPrivate(got, method.getModifiers(), "int " + method.getName() + types(method.getParameterTypes()));
        }
        for (Constructor<?> constructor : FlowletSwitch.class.getDeclaredConstructors()) {
            addUnlessPrivate(got, constructor.getModifiers(), "FlowletSwitch" + types(constructor.getParameterTypes()));
        }
        Script.due("rule 1", "members in the document", due.size(), 44);
        Script.holds("rule 1: " + got + " and " + due, got.equals(due));
        Script.holds("rule 1: public and final",
                FlowletSwitch.class.getModifiers() == (Modifier.PUBLIC | Modifier.FINAL));
    }

    private static void addUnlessPrivate(Set<String> members, int modifiers, String member) {
        if (!Modifier.isPrivate(modifiers)) {
            members.add((Modifier.toString(modifiers) + " " + member).trim());
        }
    }

    private static String types(Class<?>[] parameters) {
        return Arrays.stream(parameters).map(Class::getName).collect(Collectors.joining(", ", "(", ")"));
    }
}
