import java.math.BigInteger;
import java.util.ArrayDeque;
import java.util.ArrayList;
import java.util.Deque;
import java.util.List;
import java.util.regex.Matcher;
import java.util.regex.Pattern;
import java.util.stream.IntStream;

/**
 * The document once more, in another way, to compare with: a state is the list of the calls that led
 * to it, and every answer is worked out from the packets and the rounds that these calls give.
 */
final class PlainSwitch {
    private record Step(String name, int a, int b) {
    }

    private static final String NUMBER = "(0|[1-9][0-9]{0,3})";
    private static final Pattern ITEM =
            Pattern.compile("f *" + NUMBER + " *, *" + NUMBER + " *; *|t *" + NUMBER + " *; *");
    private static final Pattern TRACE = Pattern.compile(" *(?:" + ITEM.pattern() + ")+");

    private List<Step> steps = List.of();
    private World world = new World(steps);
    private final Deque<List<Step>> saved = new ArrayDeque<>();
    private final List<List<Step>> snapshots = new ArrayList<>();
    private final StringBuilder text = new StringBuilder();

    PlainSwitch() {
        snapshots.add(null);
        snapshots.add(null);
    }

    int answer(String name, int a, int b) {
        switch (name) {
            case "appendCharacter":
                return append(a);
            case "clearText":
                int length = text.length();
                text.setLength(0);
                return length;
            case "runTrace":
                return runTrace();
            case "undo":
                if (saved.isEmpty()) {
                    return -2;
                }
                become(saved.pop());
                return saved.size();
            case "save":
                if (a != 0 && a != 1) {
                    return -1;
                }
                snapshots.set(a, steps);
                return world.time;
            case "restore":
                return restore(a);
            default:
                return name.matches("configure|set.*|advance|send") ? change(name, a, b) : world.question(name, a, b);
        }
    }

    private void become(List<Step> other) {
        steps = other;
        world = new World(other);
    }

    private void saveState() {
        saved.push(steps);
        if (saved.size() > 8) {
            saved.removeLast();
        }
    }

    private int change(String name, int a, int b) {
        int error = world.error(name, a, b);
        if (error != 0) {
            return error;
        }
        saveState();
        return extend(name, a, b);
    }

    private int extend(String name, int a, int b) {
        List<Step> longer = name.equals("configure") ? new ArrayList<>() : new ArrayList<>(steps);
        longer.add(new Step(name, a, b));
        become(List.copyOf(longer));
        return world.latestAnswer;
    }

    private int append(int character) {
        if (character < 0 || character > 255) {
            return -1;
        }
        if (text.length() == 120) {
            return -3;
        }
        text.append((char) character);
        return text.length();
    }

    private int restore(int slot) {
        if (slot != 0 && slot != 1) {
            return -1;
        }
        if (snapshots.get(slot) == null) {
            return -2;
        }
        become(snapshots.get(slot));
        saved.clear();
        return world.time;
    }

    private int runTrace() {
        if (!TRACE.matcher(text).matches()) {
            return -10 - errorPosition();
        }
        saveState();
        List<Step> items = new ArrayList<>();
        Matcher item = ITEM.matcher(text);
        while (item.find()) {
            items.add(item.group(3) == null
                    ? new Step("send", Integer.parseInt(item.group(1)), Integer.parseInt(item.group(2)))
                    : new Step("advance", Integer.parseInt(item.group(3)), 0));
        }
        int executed = 0;
        for (Step each : items) {
            if (world.error(each.name, each.a, each.b) == 0) {
                extend(each.name, each.a, each.b);
                executed++;
            }
        }
        text.setLength(0);
        return executed;
    }

    /** The longest beginning of the text that a trace could have. */
    private int errorPosition() {
        int position = 0;
        for (int length = 1; length <= text.length(); length++) {
            Matcher beginning = TRACE.matcher(text.substring(0, length));
            if (beginning.matches() || beginning.hitEnd()) {
                position = length;
            } else {
                break;
            }
        }
        return position;
    }

    private record Packet(int flow, int size, int time, int mode, int path, boolean newFlowlet, boolean dropped,
            int end, int arrival) {
    }

    /** What a list of calls, the first of them perhaps a configure, has led to. */
    private static final class World {
        private int pathCount = 4;
        private int entryCount = 8;
        private int time = 0;
        private int mode = 1;
        private int detection = 0;
        private int gap = 20;
        private int shift = 2;
        private BigInteger generator = BigInteger.ONE;
        private final int[] delay = {10, 10, 10, 10};
        private final int[] rate = {10, 10, 10, 10};
        private final int[] remote = {0, 0, 0, 0};
        private final int[] register = {0, 0, 0, 0};
        private final List<Packet> packets = new ArrayList<>();
        /** For each round of the age bits, how many packets had been sent before it. */
        private final List<Integer> rounds = new ArrayList<>();
        private int latestAnswer = 0;

        World(List<Step> steps) {
            for (Step step : steps) {
                latestAnswer = execute(step);
            }
        }

        private int execute(Step step) {
            int previous;
            switch (step.name) {
                case "configure":
                    pathCount = step.a;
                    entryCount = step.b;
                    return (int) IntStream.range(0, 16).filter(flow -> entryOf(flow) == 0).count();
                case "setDelay":
                    return exchange(delay, step);
                case "setRate":
                    return exchange(rate, step);
                case "setRemoteLevel":
                    return exchange(remote, step);
                case "setMode":
                    previous = mode;
                    mode = step.a;
                    return previous;
                case "setDetection":
                    previous = detection;
                    detection = step.a;
                    return previous;
                case "setGap":
                    previous = gap;
                    gap = step.a;
                    return previous;
                case "setShift":
                    previous = shift;
                    shift = step.a;
                    return previous;
                case "setGenerator":
                    previous = generator.intValueExact();
                    generator = BigInteger.valueOf(step.a);
                    return previous;
                case "advance":
                    IntStream.range(0, step.a).forEach(tick -> pass());
                    return time;
                case "send":
                    return send(step.a, step.b);
                default:
                    throw new IllegalStateException(step.name);
            }
        }

        private static int exchange(int[] values, Step step) {
            int previous = values[step.a];
            values[step.a] = step.b;
            return previous;
        }

        private void pass() {
            time++;
            if (time % 10 == 0) {
                for (int path = 0; path < pathCount; path++) {
                    register[path] -= Math.floorDiv(register[path], new int[] {1, 2, 4, 8, 16}[shift]);
                }
            }
            if (detection == 1 && time % gap == 0) {
                rounds.add(packets.size());
            }
        }

        private int send(int flow, int size) {
            boolean newFlowlet = mode % 2 == 1 && !active(entryOf(flow));
            int path = nextPath(flow);
            if (newFlowlet && mode == 3) {
                generator = nextGenerator();
            }
            boolean dropped = busyTime(path) > 200;
            int begin = time + busyTime(path);
            int end = begin + (int) Math.ceil(size / (double) rate[path]);
            packets.add(new Packet(flow, size, time, mode, path, newFlowlet, dropped, end, end + delay[path]));
            if (!dropped) {
                register[path] += size;
            }
            return dropped ? 10 + path : path;
        }

        private int entryOf(int flow) {
            return (7 * flow + 3) % entryCount;
        }

        private int latestPacketOfEntry(int entry) {
            for (int i = packets.size() - 1; i >= 0; i--) {
                if (packets.get(i).mode % 2 == 1 && entryOf(packets.get(i).flow) == entry) {
                    return i;
                }
            }
            return -1;
        }

        private int roundsSincePacket(int index) {
            return (int) rounds.stream().filter(before -> before > index).count();
        }

        private boolean active(int entry) {
            int latest = latestPacketOfEntry(entry);
            return latest >= 0 && roundsSincePacket(latest) < 2
                    && (detection == 1 || time - packets.get(latest).time <= gap);
        }

        private int ageBit(int entry) {
            int latest = latestPacketOfEntry(entry);
            return latest < 0 || roundsSincePacket(latest) > 1 ? -9 : roundsSincePacket(latest);
        }

        private BigInteger nextGenerator() {
            return generator.multiply(BigInteger.valueOf(1103515245)).add(BigInteger.valueOf(12345))
                    .mod(BigInteger.TWO.pow(31));
        }

        private int metric(int path) {
            return Math.max(Math.min(register[path] / 64, 7), remote[path]);
        }

        private int nextPath(int flow) {
            if (mode == 0) {
                return flow % pathCount;
            }
            if (mode == 2) {
                return (int) (packets.stream().filter(p -> p.mode == 2).count() % pathCount);
            }
            int latest = latestPacketOfEntry(entryOf(flow));
            if (active(entryOf(flow))) {
                return packets.get(latest).path;
            }
            if (mode == 3) {
                return nextGenerator().shiftRight(16).mod(BigInteger.valueOf(pathCount)).intValueExact();
            }
            int smallest = IntStream.range(0, pathCount).map(this::metric).min().getAsInt();
            if (latest >= 0 && metric(packets.get(latest).path) == smallest) {
                return packets.get(latest).path;
            }
            return IntStream.range(0, pathCount).filter(path -> metric(path) == smallest).findFirst().getAsInt();
        }

        private List<Packet> arriving(int flow) {
            return packets.stream().filter(p -> p.flow == flow && !p.dropped).toList();
        }

        private int busyTime(int path) {
            return packets.stream().filter(p -> p.path == path && !p.dropped).mapToInt(p -> p.end - time)
                    .filter(ticks -> ticks > 0).max().orElse(0);
        }

        private int latency(int path, int size) {
            return busyTime(path) + (int) Math.ceil(size / (double) rate[path]) + delay[path];
        }

        private int bytes(int path) {
            return packets.stream().filter(p -> p.path == path && !p.dropped).mapToInt(Packet::size).sum();
        }

        private int wouldReorder(int flow, int size) {
            int path = nextPath(flow);
            int arrival = time + latency(path, size);
            return busyTime(path) <= 200 && arriving(flow).stream().anyMatch(p -> p.arrival > arrival) ? 1 : 0;
        }

        private int reordered(int flow) {
            List<Packet> all = arriving(flow);
            return (int) IntStream.range(0, all.size())
                    .filter(i -> all.subList(0, i).stream().anyMatch(p -> p.arrival > all.get(i).arrival)).count();
        }

        private int pathChanges(int flow) {
            List<Packet> all = arriving(flow);
            return (int) IntStream.range(1, all.size()).filter(i -> all.get(i).path != all.get(i - 1).path).count();
        }

        private int spread(IntStream values) {
            var summary = values.summaryStatistics();
            return summary.getMax() - summary.getMin();
        }

        private static boolean outside(int value, int least, int most) {
            return value < least || value > most;
        }

        int error(String name, int a, int b) {
            boolean wrong = switch (name) {
                case "configure" -> outside(a, 2, 4) || outside(b, 1, 8);
                case "setDelay" -> outside(a, 0, pathCount - 1) || outside(b, 0, 50);
                case "setRate" -> outside(a, 0, pathCount - 1) || outside(b, 1, 100);
                case "setRemoteLevel" -> outside(a, 0, pathCount - 1) || outside(b, 0, 7);
                case "setMode" -> outside(a, 0, 3);
                case "setDetection" -> outside(a, 0, 1);
                case "setGap" -> outside(a, 1, 200);
                case "setShift" -> outside(a, 1, 4);
                case "setGenerator" -> a < 0;
                case "advance" -> outside(a, 1, 1000);
                case "send", "wouldReorder" -> outside(a, 0, 15) || outside(b, 1, 1000);
                case "entryOf", "nextPath", "flowlets", "pathChanges", "reordered", "lastArrival" -> outside(a, 0, 15);
                case "isActive", "entryPath", "ageBit", "idleTime" -> outside(a, 0, entryCount - 1);
                case "load", "metric", "busyTime", "packets", "bytes", "drops" -> outside(a, 0, pathCount - 1);
                case "latency" -> outside(a, 0, pathCount - 1) || outside(b, 1, 1000);
                case "safeGap" -> outside(a, 1, 1000);
                default -> false;
            };
            return wrong ? -1 : name.equals("advance") && time + a > 1000000 ? -2 : 0;
        }

        int question(String name, int a, int b) {
            int error = error(name, a, b);
            if (error != 0) {
                return error;
            }
            return switch (name) {
                case "now" -> time;
                case "entryOf" -> entryOf(a);
                case "isActive" -> active(a) ? 1 : 0;
                case "entryPath" -> latestPacketOfEntry(a) < 0 ? -9 : packets.get(latestPacketOfEntry(a)).path;
                case "ageBit" -> ageBit(a);
                case "idleTime" -> latestPacketOfEntry(a) < 0 ? -9 : time - packets.get(latestPacketOfEntry(a)).time;
                case "activeEntries" -> (int) IntStream.range(0, entryCount).filter(this::active).count();
                case "load" -> register[a];
                case "metric" -> metric(a);
                case "busyTime" -> busyTime(a);
                case "latency" -> latency(a, b);
                case "safeGap" -> spread(IntStream.range(0, pathCount).map(path -> latency(path, a)));
                case "packets" -> (int) packets.stream().filter(p -> p.path == a && !p.dropped).count();
                case "bytes" -> bytes(a);
                case "drops" -> (int) packets.stream().filter(p -> p.path == a && p.dropped).count();
                case "imbalance" -> spread(IntStream.range(0, pathCount).map(this::bytes));
                case "nextPath" -> nextPath(a);
                case "wouldReorder" -> wouldReorder(a, b);
                case "flowlets" -> (int) packets.stream().filter(p -> p.flow == a && p.newFlowlet).count();
                case "pathChanges" -> pathChanges(a);
                case "reordered" -> reordered(a);
                case "lastArrival" -> arriving(a).stream().mapToInt(Packet::arrival).max().orElse(-9);
                default -> throw new IllegalStateException(name);
            };
        }
    }
}
