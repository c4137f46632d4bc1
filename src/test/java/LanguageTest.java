import java.io.IOException;
import java.lang.reflect.Array;
import java.lang.reflect.Field;
import java.lang.reflect.Method;
import java.lang.reflect.Modifier;
import java.util.Arrays;
import java.util.Collections;
import java.util.IdentityHashMap;
import java.util.Map;
import java.util.Set;
import java.util.regex.Matcher;
import java.util.regex.Pattern;
import java.util.stream.Collectors;

/** Those rules of LANGUAGE.md that can be seen in the class or in its text. */
final class LanguageTest {
    public static void main(String[] args) throws IOException, IllegalAccessException {
        ClassSource source = new ClassSource();
        classesInside();
        forbiddenWords(source.code());
        divisors(source.code());
        loops(source.code());
        methods(source);
        room();
        Script.finish();
    }

    private static void classesInside() {
        Set<String> publicNames = Arrays.stream(FlowletSwitch.class.getDeclaredMethods())
                .filter(method -> Modifier.isPublic(method.getModifiers())).map(Method::getName)
                .collect(Collectors.toSet());
        Class<?>[] inside = FlowletSwitch.class.getDeclaredClasses();
        Script.holds("rule 11: number of classes", inside.length < 12);
        checkMethods(FlowletSwitch.class, publicNames);
        for (Class<?> each : inside) {
            Script.holds("rule 2: static: " + each, Modifier.isStatic(each.getModifiers()));
            Script.holds("rule 1: not public: " + each, !Modifier.isPublic(each.getModifiers()));
            Script.holds("rule 11: fields of " + each, Arrays.stream(each.getDeclaredFields())
                    .filter(field -> !Modifier.isStatic(field.getModifiers())).count() <= 20);
            checkMethods(each, publicNames);
        }
    }

    private static void checkMethods(Class<?> owner, Set<String> publicNames) {
        for (Method method : owner.getDeclaredMethods()) {
            boolean face = owner == FlowletSwitch.class && Modifier.isPublic(method.getModifiers());
            Script.holds("rule 1: name of " + method, face || !publicNames.contains(method.getName()));
            Script.holds("rule 11: parameters of " + method, method.getParameterCount() <= 7);
        }
    }

    private static void forbiddenWords(String code) {
        String[] forbidden = {"\\bthrows?\\b", "\\btry\\b", "\\bcatch\\b", "\\bsynchronized\\b", "\\bassert\\b",
            "\\bpackage\\b", "\\bimport\\b", "->", "::", "Exact\\b", "\\bstatic\\s*\\{", "\\bSystem\\b", "\\bThread\\b",
            "\\bObject\\b", "\\bjava\\.", "\\bString\\b", "\\bdouble\\b", "\\bfloat\\b", "\\bequals\\b", "\\bhashCode\\b",
            "\\btoString\\b", "@"};
        for (String word : forbidden) {
            Script.holds("LANGUAGE.md: " + word, !Pattern.compile(word).matcher(code).find());
        }
        Matcher field = Pattern.compile("(?m)^ +(?:private|public)? ?static (?!final )[^(=]*[=;]").matcher(code);
        Script.holds("rule 5: static fields are final", !field.find());
    }

    private static void divisors(String code) {
        Matcher division = Pattern.compile("(?m)^.* [/%]=? ([\\w.]+|\\().*$").matcher(code);
        int divisions = 0;
        while (division.find()) {
            String divisor = division.group(1);
            divisions++;
            Script.holds("rule 7: the divisor is a constant or tested: " + division.group().trim(),
                    divisor.matches("[1-9]\\d*|[A-Z_0-9]+") || division.group().contains(divisor + " < 1 ? 0 : "));
        }
        Script.holds("rule 7: all divisions are looked at", divisions == code.chars().filter(c -> c == '/' || c == '%').count());
    }

    private static void loops(String code) {
        Matcher loop = Pattern.compile("\\b(?:for|while|do)\\b[^\\n]*").matcher(code);
        while (loop.find()) {
            Script.holds("rule 9: the loop's bound stands in its line: " + loop.group(),
                    loop.group().matches("for \\(int (\\w+) = \\d; \\1 < \\w+(?: && .*)?; \\1\\+\\+\\) \\{")
                            || loop.group().matches("while \\(position < length && .*\\) \\{"));
        }
    }

    private static void methods(ClassSource source) {
        int looked = 0;
        for (Map.Entry<String, String> method : source.bodies().entrySet()) {
            boolean constructor = ClassSource.isConstructor(method.getKey());
            looked += constructor ? 0 : 1;
            Script.holds("rule 11: length of " + method.getKey(), method.getValue().lines().count() <= 60);
            Script.holds("rule 11: calls of " + method.getKey() + " go at most eight deep", source.depth(method.getKey(), 1) <= 8);
            Script.holds("rule 12: only constructors make objects: " + method.getKey(),
                    constructor || !method.getValue().contains("new "));
        }
        Script.due("rule 11", "methods that are looked at", looked, countMethods());
    }

    private static int countMethods() {
        int count = FlowletSwitch.class.getDeclaredMethods().length;
        for (Class<?> each : FlowletSwitch.class.getDeclaredClasses()) {
            count += each.getDeclaredMethods().length;
        }
        return count;
    }

    private static void room() throws IllegalAccessException {
        FlowletSwitch object = new FlowletSwitch();
        int atFirst = countObjects(object);
        for (int call = 0; call < 100; call++) {
            object.send(call % 16, 500);
            object.advance(30);
            object.configure(2 + call % 3, 1 + call % 8);
            object.save(call % 2);
            Script.append(object, "f1,1;");
            object.runTrace();
            object.undo();
            object.restore(call % 2);
        }
        Script.holds("the room: " + atFirst + " objects", atFirst < 400);
        Script.due("the room", "objects after 100 rounds", countObjects(object), atFirst);
    }

    private static int countObjects(Object root) throws IllegalAccessException {
        Set<Object> seen = Collections.newSetFromMap(new IdentityHashMap<>());
        visit(root, seen);
        return seen.size();
    }

    private static void visit(Object object, Set<Object> seen) throws IllegalAccessException {
        if (object == null || !seen.add(object)) {
            return;
        }
        if (object.getClass().isArray()) {
            for (int i = 0; !object.getClass().getComponentType().isPrimitive() && i < Array.getLength(object); i++) {
                visit(Array.get(object, i), seen);
            }
            return;
        }
        for (Field field : object.getClass().getDeclaredFields()) {
            if (!Modifier.isStatic(field.getModifiers()) && !field.getType().isPrimitive()) {
                field.setAccessible(true);
                visit(field.get(object), seen);
            }
        }
    }
}
