import java.io.IOException;
import java.lang.reflect.Array;
import java.lang.reflect.Constructor;
import java.lang.reflect.Field;
import java.lang.reflect.Method;
import java.lang.reflect.Modifier;
import java.nio.file.Files;
import java.nio.file.Path;
import java.util.Arrays;
import java.util.Collections;
import java.util.IdentityHashMap;
import java.util.Set;
import java.util.TreeSet;
import java.util.regex.Matcher;
import java.util.regex.Pattern;
import java.util.stream.Collectors;

/** The face as the document has it, and those rules of LANGUAGE.md that can be seen from outside. */
final class FaceTest {
    private static final Path SOURCE = Path.of("src/main/java/FlowletSwitch.java");
    private static final Path DOCUMENT = Path.of("../shared/DOC.md");

    public static void main(String[] args) throws IOException, IllegalAccessException {
        constants();
        membersAreThoseOfTheDocument();
        classesInside();
        forbiddenWords();
        room();
        Script.finish();
    }

    private static void constants() {
        Script.due("face", "INVALID_ARGUMENT", FlowletSwitch.INVALID_ARGUMENT, -1);
        Script.due("face", "ILLEGAL_STATE", FlowletSwitch.ILLEGAL_STATE, -2);
        Script.due("face", "CAPACITY_EXCEEDED", FlowletSwitch.CAPACITY_EXCEEDED, -3);
        Script.due("face", "NONE", FlowletSwitch.NONE, -9);
    }

    private static void membersAreThoseOfTheDocument() throws IOException {
        Set<String> due = new TreeSet<>();
        Matcher line = Pattern.compile("(?m)^    (public [^=;]*?)(?: = -\\d+)?;$").matcher(Files.readString(DOCUMENT));
        while (line.find()) {
            due.add(line.group(1).replaceAll("int \\w+(?=[,)])", "int"));
        }
        Set<String> got = new TreeSet<>();
        for (Field field : FlowletSwitch.class.getDeclaredFields()) {
            addUnlessPrivate(got, field.getModifiers(), "int " + field.getName());
        }
        for (Method method : FlowletSwitch.class.getDeclaredMethods()) {
            addUnlessPrivate(got, method.getModifiers(), "int " + method.getName() + types(method.getParameterTypes()));
        }
        for (Constructor<?> constructor : FlowletSwitch.class.getDeclaredConstructors()) {
            addUnlessPrivate(got, constructor.getModifiers(), "FlowletSwitch" + types(constructor.getParameterTypes()));
        }
        Script.due("rule 1", "members in the document", due.size(), 44);
        Script.holds("rule 1: " + got + " and " + due, got.equals(due));
        Script.holds("rule 1: public and final",
                FlowletSwitch.class.getModifiers() == (Modifier.PUBLIC | Modifier.FINAL));
    }

    private static void addUnlessPrivate(Set<String> members, int modifiers, String member) {
        if (!Modifier.isPrivate(modifiers)) {
            members.add((Modifier.toString(modifiers) + " " + member).trim());
        }
    }

    private static String types(Class<?>[] parameters) {
        return Arrays.stream(parameters).map(Class::getName).collect(Collectors.joining(", ", "(", ")"));
    }

    private static void classesInside() {
        Set<String> publicNames = Arrays.stream(FlowletSwitch.class.getDeclaredMethods())
                .filter(method -> Modifier.isPublic(method.getModifiers())).map(Method::getName)
                .collect(Collectors.toSet());
        Class<?>[] inside = FlowletSwitch.class.getDeclaredClasses();
        Script.holds("rule 11: number of classes", inside.length < 12);
        checkMethods(FlowletSwitch.class, publicNames);
        for (Class<?> each : inside) {
            Script.holds("rule 2: static: " + each, Modifier.isStatic(each.getModifiers()));
            Script.holds("rule 1: not public: " + each, !Modifier.isPublic(each.getModifiers()));
            Script.holds("rule 11: fields of " + each, Arrays.stream(each.getDeclaredFields())
                    .filter(field -> !Modifier.isStatic(field.getModifiers())).count() <= 20);
            checkMethods(each, publicNames);
        }
    }

    private static void checkMethods(Class<?> owner, Set<String> publicNames) {
        for (Method method : owner.getDeclaredMethods()) {
            boolean face = owner == FlowletSwitch.class && Modifier.isPublic(method.getModifiers());
            Script.holds("rule 1: name of " + method, face || !publicNames.contains(method.getName()));
            Script.holds("rule 11: parameters of " + method, method.getParameterCount() <= 7);
        }
    }

    private static void forbiddenWords() throws IOException {
        String code = Files.readString(SOURCE).replaceAll("(?s)/\\*.*?\\*/", "").replaceAll("//[^\n]*", "");
        String[] forbidden = {"\\bthrows?\\b", "\\btry\\b", "\\bcatch\\b", "\\bsynchronized\\b", "\\bassert\\b",
            "\\bpackage\\b", "\\bimport\\b", "->", "::", "Exact\\b", "\\bstatic\\s*\\{", "\\bSystem\\b", "\\bThread\\b",
            "\\bObject\\b", "\\bjava\\.", "\\bString\\b", "\\bdouble\\b", "\\bfloat\\b", "\\bequals\\b", "\\bhashCode\\b",
            "\\btoString\\b", "@"};
        for (String word : forbidden) {
            Script.holds("LANGUAGE.md: " + word, !Pattern.compile(word).matcher(code).find());
        }
        Matcher field = Pattern.compile("(?m)^ +(?:private|public)? ?static (?!final )[^(=]*[=;]").matcher(code);
        Script.holds("rule 5: static fields are final", !field.find());
    }

    private static void room() throws IllegalAccessException {
        FlowletSwitch object = new FlowletSwitch();
        int atFirst = countObjects(object);
        for (int call = 0; call < 100; call++) {
            object.send(call % 16, 500);
            object.advance(30);
            object.configure(2 + call % 3, 1 + call % 8);
            object.save(call % 2);
            Script.append(object, "f1,1;");
            object.runTrace();
            object.undo();
            object.restore(call % 2);
        }
        Script.holds("the room: " + atFirst + " objects", atFirst < 400);
        Script.due("the room", "objects after 100 rounds", countObjects(object), atFirst);
    }

    private static int countObjects(Object root) throws IllegalAccessException {
        Set<Object> seen = Collections.newSetFromMap(new IdentityHashMap<>());
        visit(root, seen);
        return seen.size();
    }

    private static void visit(Object object, Set<Object> seen) throws IllegalAccessException {
        if (object == null || !seen.add(object)) {
            return;
        }
        if (object.getClass().isArray()) {
            for (int i = 0; !object.getClass().getComponentType().isPrimitive() && i < Array.getLength(object); i++) {
                visit(Array.get(object, i), seen);
            }
            return;
        }
        for (Field field : object.getClass().getDeclaredFields()) {
            if (!Modifier.isStatic(field.getModifiers()) && !field.getType().isPrimitive()) {
                field.setAccessible(true);
                visit(field.get(object), seen);
            }
        }
    }
}
