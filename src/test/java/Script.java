import java.lang.reflect.Field;
import java.lang.reflect.Method;
import java.util.regex.Matcher;
import java.util.regex.Pattern;

/**
 * Runs calls written as in the document's examples, "send(0,100) = 0; now() = 0", on a new object.
 *
 * A due answer is a number or the name of a constant. text("f1,64;") appends the characters of a
 * text one by one and answers as the last appendCharacter does.
 */
final class Script {
    private static final Pattern STEP =
            Pattern.compile("\\s*(\\w+)\\((\"[^\"]*\"|[^)\"]*)\\)\\s*=\\s*(-?\\w+)\\s*(?:;|$)");

    private static int right = 0;
    private static int wrong = 0;

    private Script() {
    }

    static void run(String name, String steps) {
        FlowletSwitch object = new FlowletSwitch();
        Matcher step = STEP.matcher(steps);
        int end = 0;
        while (end < steps.length() && !steps.substring(end).isBlank()) {
            if (!step.find(end) || step.start() != end) {
                throw new IllegalStateException(name + ": can't read: " + steps.substring(end));
            }
            end = step.end();
            String call = step.group(1) + "(" + step.group(2) + ")";
            due(name, call, call(object, step.group(1), step.group(2)), value(step.group(3)));
        }
    }

    static void due(String name, String call, int got, int want) {
        if (got == want) {
            right++;
        } else {
            wrong++;
            System.out.println(name + ": " + call + " answered " + got + ", due is " + want);
        }
    }

    static void holds(String name, boolean condition) {
        due(name, "condition", condition ? 1 : 0, 1);
    }

    static void finish() {
        System.out.println("answers: " + right + " as due, " + wrong + " not as due");
        if (wrong != 0 || right == 0) {
            System.exit(1);
        }
    }

    static int call(FlowletSwitch object, String method, String arguments) {
        if (method.equals("text")) {
            return append(object, arguments.substring(1, arguments.length() - 1));
        }
        String[] words = arguments.isBlank() ? new String[0] : arguments.split(",");
        Class<?>[] types = new Class<?>[words.length];
        Object[] values = new Object[words.length];
        for (int i = 0; i < words.length; i++) {
            types[i] = int.class;
            values[i] = Integer.parseInt(words[i].trim());
        }
        try {
            Method found = FlowletSwitch.class.getMethod(method, types);
            return (Integer) found.invoke(object, values);
        } catch (ReflectiveOperationException e) {
            throw new IllegalStateException(method + "(" + arguments + ")", e);
        }
    }

    static int append(FlowletSwitch object, String text) {
        int answer = 0;
        for (int i = 0; i < text.length(); i++) {
            answer = object.appendCharacter(text.charAt(i));
        }
        return answer;
    }

    private static int value(String word) {
        if (Character.isDigit(word.charAt(word.length() - 1))) {
            return Integer.parseInt(word);
        }
        try {
            Field constant = FlowletSwitch.class.getField(word);
            return constant.getInt(null);
        } catch (ReflectiveOperationException e) {
            throw new IllegalStateException("no such constant: " + word, e);
        }
    }
}
