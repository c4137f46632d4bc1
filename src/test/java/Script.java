import java.lang.reflect.Field;
import java.lang.reflect.InvocationTargetException;
import java.lang.reflect.Method;
import java.util.ArrayList;
import java.util.List;
import java.util.regex.Matcher;
import java.util.regex.Pattern;

/**
 * Runs calls written as in the document's examples, "send(0,100) = 0; now() = 0", on a new object or a given one.
 *
 * A due answer is a number, the name of a constant, or ? if any answer will do. text("f1,64;") appends
 * the characters of a text one by one and answers as the last appendCharacter does. "7x undo() = ?"
 * makes a call seven times.
 */
final class Script {
    private static final Pattern STEP =
            Pattern.compile("\\s*(?:(\\d+)x )?(\\w+)\\((\"[^\"]*\"|[^)\"]*)\\)\\s*=\\s*(-?\\w+|\\?)\\s*(?:;|$)");

    private static int right = 0;
    private static int wrong = 0;

    private Script() {
    }

    static void run(String name, String steps) {
        run(name, new FlowletSwitch(), steps);
    }

    static void run(String name, FlowletSwitch object, String steps) {
        for (Answer answer : answers(object, steps)) {
            count(name, answer);
        }
    }

    static void due(String name, String call, int got, int want) {
        count(name, new Answer(call, Integer.toString(got), Integer.toString(want)));
    }

    static void holds(String name, boolean condition) {
        due(name, "condition", condition ? 1 : 0, 1);
    }

    static void finish() {
        System.out.println("answers: " + right + " as due, " + wrong + " not as due");
        if (wrong != 0 || right == 0) {
            System.exit(1);
        }
    }

    static void count(String name, Answer answer) {
        if (answer.isDue()) {
            right++;
        } else {
            wrong++;
            System.out.println(name + ": " + answer);
        }
    }

    /** What a call answered, and what it had to. */
    record Answer(String call, String got, String want) {
        boolean isDue() {
            return want.equals("?") || want.equals(got);
        }

        @Override
        public String toString() {
            return call + " answered " + got + ", due is " + want;
        }
    }

    /** The answers of an object, whose class need not be FlowletSwitch itself, to the calls of a script. */
    static List<Answer> answers(Object object, String steps) {
        List<Answer> answers = new ArrayList<>();
        Matcher step = STEP.matcher(steps);
        int end = 0;
        while (end < steps.length() && !steps.substring(end).isBlank()) {
            if (!step.find(end) || step.start() != end) {
                throw new IllegalStateException("can't read: " + steps.substring(end));
            }
            end = step.end();
            int times = step.group(1) == null ? 1 : Integer.parseInt(step.group(1));
            for (int time = 0; time < times; time++) {
                answers.add(new Answer(step.group(2) + "(" + step.group(3) + ")",
                        call(object, step.group(2), step.group(3)), value(step.group(4))));
            }
        }
        return answers;
    }

    private static String call(Object object, String method, String arguments) {
        if (method.equals("text")) {
            String answer = "nothing";
            for (char character : arguments.substring(1, arguments.length() - 1).toCharArray()) {
                answer = call(object, "appendCharacter", Integer.toString(character));
            }
            return answer;
        }
        String[] words = arguments.isBlank() ? new String[0] : arguments.split(",");
        Class<?>[] types = new Class<?>[words.length];
        Object[] values = new Object[words.length];
        for (int i = 0; i < words.length; i++) {
            types[i] = int.class;
            values[i] = Integer.parseInt(words[i].trim());
        }
        try {
            Method found = object.getClass().getMethod(method, types);
            return found.invoke(object, values).toString();
        } catch (InvocationTargetException e) {
            return e.getCause().toString();
        } catch (ReflectiveOperationException e) {
            throw new IllegalStateException(method + "(" + arguments + ")", e);
        }
    }

    static int append(FlowletSwitch object, String text) {
        int answer = 0;
        for (int i = 0; i < text.length(); i++) {
            answer = object.appendCharacter(text.charAt(i));
        }
        return answer;
    }

    private static String value(String word) {
        if (word.equals("?") || Character.isDigit(word.charAt(word.length() - 1))) {
            return word;
        }
        try {
            Field constant = FlowletSwitch.class.getField(word);
            return Integer.toString(constant.getInt(null));
        } catch (ReflectiveOperationException e) {
            throw new IllegalStateException("no such constant: " + word, e);
        }
    }
}
