import java.lang.reflect.Method;
import java.util.ArrayList;
import java.util.List;
import java.util.Random;

/** Long runs of calls, the same ones each time, whose answers must be those of PlainSwitch. */
final class ComparisonTest {
    private static final int OBJECTS = 400;
    private static final int CALLS = 512;

    private static final String[] CHANGES = {"configure", "setDelay", "setRate", "setRemoteLevel", "setMode",
        "setDetection", "setGap", "setShift", "setGenerator", "undo", "undo", "save", "restore", "clearText",
        "runTrace", "appendCharacter"};
    private static final String[] QUESTIONS = {"now", "entryOf", "isActive", "entryPath", "ageBit", "idleTime",
        "activeEntries", "load", "metric", "busyTime", "latency", "safeGap", "packets", "bytes", "drops",
        "imbalance", "nextPath", "wouldReorder", "flowlets", "pathChanges", "reordered", "lastArrival"};

    private final Random random;
    private final FlowletSwitch object = new FlowletSwitch();
    private final PlainSwitch plain = new PlainSwitch();
    private final List<String> calls = new ArrayList<>();
    private final int flowsUsed;
    private boolean wrong = false;

    private ComparisonTest(int seed) {
        random = new Random(seed);
        flowsUsed = 1 + random.nextInt(16);
    }

    public static void main(String[] args) throws ReflectiveOperationException {
        for (int seed = 0; seed < OBJECTS; seed++) {
            new ComparisonTest(seed).run();
        }
        Script.finish();
    }

    private void run() throws ReflectiveOperationException {
        while (calls.size() < CALLS && !wrong) {
            int kind = random.nextInt(100);
            if (kind < 30) {
                call("send", number(flowsUsed - 1, 15), size());
            } else if (kind < 45) {
                call("advance", random.nextInt(8) == 0 ? number(1000, 1000) : 1 + random.nextInt(30), 0);
            } else if (kind < 56) {
                change(CHANGES[random.nextInt(CHANGES.length)]);
            } else if (kind < 57) {
                writeTrace();
            } else {
                change(QUESTIONS[random.nextInt(QUESTIONS.length)]);
            }
        }
    }

    private void change(String name) throws ReflectiveOperationException {
        switch (name) {
            case "configure" -> call(name, 2 + number(2, 2), 1 + number(7, 7));
            case "setDelay", "latency" -> call(name, number(3, 3), number(50, 50));
            case "setRate" -> call(name, number(3, 3), random.nextBoolean() ? 1 + random.nextInt(5) : number(100, 100));
            case "setRemoteLevel" -> call(name, number(3, 3), random.nextBoolean() ? random.nextInt(3) : number(7, 7));
            case "setMode" -> call(name, number(3, 3), 0);
            case "setShift" -> call(name, 1 + number(3, 3), 0);
            case "setDetection", "save", "restore" -> call(name, number(1, 1), 0);
            case "setGap" -> call(name, random.nextBoolean() ? 1 + random.nextInt(12) : number(200, 200), 0);
            case "setGenerator" -> call(name, random.nextInt(), 0);
            case "appendCharacter" -> call(name, number(255, 255), 0);
            case "safeGap" -> call(name, size(), 0);
            case "wouldReorder" -> call(name, number(flowsUsed - 1, 15), size());
            case "isActive", "entryPath", "ageBit", "idleTime" -> call(name, number(7, 7), 0);
            case "load", "metric", "busyTime", "packets", "bytes", "drops" -> call(name, number(3, 3), 0);
            default -> call(name, number(flowsUsed - 1, 15), 0);
        }
    }

    /** 0 to the usual limit most times, at times the edges of 0 to the last limit or any number. */
    private int number(int usual, int last) {
        return switch (random.nextInt(40)) {
            case 0 -> -1;
            case 1 -> last + 1;
            case 2 -> random.nextInt();
            case 3 -> last;
            default -> random.nextInt(usual + 1);
        };
    }

    private int size() {
        return random.nextInt(3) == 0 ? number(1000, 1000) : 1 + random.nextInt(150);
    }

    private void writeTrace() throws ReflectiveOperationException {
        StringBuilder text = new StringBuilder();
        int items = 1 + random.nextInt(6);
        for (int item = 0; item < items; item++) {
            text.append(spaces());
            if (random.nextInt(3) > 0) {
                text.append('f').append(spaces()).append(random.nextInt(17)).append(spaces()).append(',')
                        .append(spaces()).append(random.nextInt(300));
            } else {
                text.append('t').append(spaces()).append(random.nextInt(40));
            }
            text.append(spaces()).append(';').append(spaces());
        }
        if (random.nextInt(2) == 0) {
            spoil(text);
        }
        for (int i = 0; i < text.length(); i++) {
            call("appendCharacter", text.charAt(i), 0);
        }
        call("runTrace", 0, 0);
        if (random.nextInt(3) > 0) {
            call("clearText", 0, 0);
        }
    }

    private String spaces() {
        return " ".repeat(random.nextInt(6) == 0 ? 1 + random.nextInt(2) : 0);
    }

    private void spoil(StringBuilder text) {
        int place = random.nextInt(text.length());
        switch (random.nextInt(4)) {
            case 0 -> text.setLength(place);
            case 1 -> text.deleteCharAt(place);
            case 2 -> text.insert(place, "ft,;0 19x".charAt(random.nextInt(9)));
            default -> text.setCharAt(place, "ft,;0 19x".charAt(random.nextInt(9)));
        }
    }

    private void call(String name, int a, int b) throws ReflectiveOperationException {
        if (wrong || calls.size() >= CALLS) {
            return;
        }
        for (Method method : FlowletSwitch.class.getDeclaredMethods()) {
            if (method.getName().equals(name)) {
                Object[] arguments = new Object[method.getParameterCount()];
                for (int i = 0; i < arguments.length; i++) {
                    arguments[i] = i == 0 ? a : b;
                }
                compare(name + List.of(arguments), (Integer) method.invoke(object, arguments), plain.answer(name, a, b));
                return;
            }
        }
        throw new IllegalStateException(name);
    }

    private void compare(String call, int got, int want) {
        calls.add(call + " = " + got);
        Script.due("comparison", call, got, want);
        if (got != want) {
            wrong = true;
            System.out.println(String.join("; ", calls));
        }
    }
}
