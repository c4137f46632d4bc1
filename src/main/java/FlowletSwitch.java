/**
 * A simulator for flowlet switching: it distributes the packets of flows over several paths.
 *
 * The face only checks arguments and keeps the saved states; the simulation itself is in
 * SwitchState, so that one copy of a SwitchState is all that undo and the snapshots need.
 */
public final class FlowletSwitch {
    public static final int INVALID_ARGUMENT = -1;
    public static final int ILLEGAL_STATE = -2;
    public static final int CAPACITY_EXCEEDED = -3;
    public static final int NONE = -9;

    private static final int FLOWS = 16;
    private static final int LEAST_PATHS = 2;
    private static final int MOST_PATHS = 4;
    private static final int MOST_ENTRIES = 8;
    private static final int MOST_DELAY = 50;
    private static final int MOST_RATE = 100;
    private static final int MOST_LEVEL = 7;
    private static final int MOST_GAP = 200;
    private static final int MOST_SHIFT = 4;
    private static final int MOST_TICKS = 1000;
    private static final int MOST_TIME = 1000000;
    private static final int MOST_SIZE = 1000;
    private static final int MOST_BUSY_TIME = 200;
    private static final int MOST_SAVED_STATES = 8;
    private static final int SLOTS = 2;
    private static final int MOST_CHARACTERS = 120;
    private static final int MOST_CODE = 255;
    private static final int MOST_DIGITS = 4;

    private static final int BY_FLOW = 0;
    private static final int BY_LOAD = 1;
    private static final int BY_PACKET = 2;
    private static final int AT_RANDOM = 3;

    private static final int TIMESTAMPS = 0;
    private static final int AGE_BITS = 1;

    private static final int LOAD_OF_ONE_LEVEL = 64;
    private static final int DECAY_PERIOD = 10;
    private static final int LOW_31_BITS = 0x7fffffff;
    private static final int DROPPED = 10;
    private static final int TRACE_ERROR = -10;
    private static final int NO_ERROR = -1;
    private static final int NO_NUMBER = -1;
    private static final int NO_CODE = -1;

    private final SwitchState state;
    private final SavedStates savedStates;
    private final SwitchState[] snapshots;
    private final boolean[] slotFilled;
    private final Trace trace;

    public FlowletSwitch() {
        state = new SwitchState();
        savedStates = new SavedStates();
        snapshots = new SwitchState[SLOTS];
        for (int slot = 0; slot < SLOTS; slot++) {
            snapshots[slot] = new SwitchState();
        }
        slotFilled = new boolean[SLOTS];
        trace = new Trace();
    }

    // ---- configuration

    public int configure(int paths, int entries) {
        if (!isBetween(paths, LEAST_PATHS, MOST_PATHS) || !isBetween(entries, 1, MOST_ENTRIES)) {
            return INVALID_ARGUMENT;
        }
        savedStates.push(state);
        state.reset(paths, entries);
        return state.countFlowsOfEntry(0);
    }

    public int setDelay(int path, int delay) {
        if (!state.hasPath(path) || !isBetween(delay, 0, MOST_DELAY)) {
            return INVALID_ARGUMENT;
        }
        savedStates.push(state);
        int previous = state.paths[path].delay;
        state.paths[path].delay = delay;
        return previous;
    }

    public int setRate(int path, int rate) {
        if (!state.hasPath(path) || !isBetween(rate, 1, MOST_RATE)) {
            return INVALID_ARGUMENT;
        }
        savedStates.push(state);
        int previous = state.paths[path].rate;
        state.paths[path].rate = rate;
        return previous;
    }

    public int setRemoteLevel(int path, int level) {
        if (!state.hasPath(path) || !isBetween(level, 0, MOST_LEVEL)) {
            return INVALID_ARGUMENT;
        }
        savedStates.push(state);
        int previous = state.paths[path].remoteLevel;
        state.paths[path].remoteLevel = level;
        return previous;
    }

    public int setMode(int mode) {
        if (!isBetween(mode, BY_FLOW, AT_RANDOM)) {
            return INVALID_ARGUMENT;
        }
        savedStates.push(state);
        int previous = state.mode;
        state.mode = mode;
        return previous;
    }

    public int setDetection(int detection) {
        if (!isBetween(detection, TIMESTAMPS, AGE_BITS)) {
            return INVALID_ARGUMENT;
        }
        savedStates.push(state);
        int previous = state.detection;
        state.detection = detection;
        return previous;
    }

    public int setGap(int gap) {
        if (!isBetween(gap, 1, MOST_GAP)) {
            return INVALID_ARGUMENT;
        }
        savedStates.push(state);
        int previous = state.gap;
        state.gap = gap;
        return previous;
    }

    public int setShift(int shift) {
        if (!isBetween(shift, 1, MOST_SHIFT)) {
            return INVALID_ARGUMENT;
        }
        savedStates.push(state);
        int previous = state.shift;
        state.shift = shift;
        return previous;
    }

    public int setGenerator(int value) {
        if (value < 0) {
            return INVALID_ARGUMENT;
        }
        savedStates.push(state);
        int previous = state.generator;
        state.generator = value;
        return previous;
    }

    // ---- operation

    public int advance(int ticks) {
        if (!isBetween(ticks, 1, MOST_TICKS)) {
            return INVALID_ARGUMENT;
        }
        if (!state.hasTimeFor(ticks)) {
            return ILLEGAL_STATE;
        }
        savedStates.push(state);
        state.letTimePass(ticks);
        return state.time;
    }

    public int send(int flow, int size) {
        if (!isFlow(flow) || !isSize(size)) {
            return INVALID_ARGUMENT;
        }
        savedStates.push(state);
        return state.sendPacket(flow, size);
    }

    // ---- table

    public int now() {
        return state.time;
    }

    public int entryOf(int flow) {
        return isFlow(flow) ? state.entryNumber(flow) : INVALID_ARGUMENT;
    }

    public int isActive(int entry) {
        if (!state.hasEntry(entry)) {
            return INVALID_ARGUMENT;
        }
        return state.isInUse(state.entries[entry]) ? 1 : 0;
    }

    public int entryPath(int entry) {
        return state.hasEntry(entry) ? state.entries[entry].path : INVALID_ARGUMENT;
    }

    public int ageBit(int entry) {
        if (!state.hasEntry(entry)) {
            return INVALID_ARGUMENT;
        }
        return state.entries[entry].valid ? state.entries[entry].age : NONE;
    }

    public int idleTime(int entry) {
        if (!state.hasEntry(entry)) {
            return INVALID_ARGUMENT;
        }
        return state.entries[entry].isUnused() ? NONE : state.time - state.entries[entry].latest;
    }

    public int activeEntries() {
        return state.countEntriesInUse();
    }

    // ---- paths

    public int load(int path) {
        return state.hasPath(path) ? state.paths[path].register : INVALID_ARGUMENT;
    }

    public int metric(int path) {
        return state.hasPath(path) ? state.paths[path].congestion() : INVALID_ARGUMENT;
    }

    public int busyTime(int path) {
        return state.hasPath(path) ? state.paths[path].waitAt(state.time) : INVALID_ARGUMENT;
    }

    public int latency(int path, int size) {
        if (!state.hasPath(path) || !isSize(size)) {
            return INVALID_ARGUMENT;
        }
        return state.paths[path].ticksToArrive(state.time, size);
    }

    public int safeGap(int size) {
        return isSize(size) ? state.spreadOfLatencies(size) : INVALID_ARGUMENT;
    }

    public int packets(int path) {
        return state.hasPath(path) ? state.paths[path].packetCount : INVALID_ARGUMENT;
    }

    public int bytes(int path) {
        return state.hasPath(path) ? state.paths[path].byteCount : INVALID_ARGUMENT;
    }

    public int drops(int path) {
        return state.hasPath(path) ? state.paths[path].dropCount : INVALID_ARGUMENT;
    }

    public int imbalance() {
        return state.spreadOfBytes();
    }

    // ---- flows

    public int nextPath(int flow) {
        return isFlow(flow) ? state.pathFor(flow) : INVALID_ARGUMENT;
    }

    public int wouldReorder(int flow, int size) {
        if (!isFlow(flow) || !isSize(size)) {
            return INVALID_ARGUMENT;
        }
        return state.wouldOvertake(flow, size) ? 1 : 0;
    }

    public int flowlets(int flow) {
        return isFlow(flow) ? state.flows[flow].flowletCount : INVALID_ARGUMENT;
    }

    public int pathChanges(int flow) {
        return isFlow(flow) ? state.flows[flow].changeCount : INVALID_ARGUMENT;
    }

    public int reordered(int flow) {
        return isFlow(flow) ? state.flows[flow].reorderCount : INVALID_ARGUMENT;
    }

    public int lastArrival(int flow) {
        return isFlow(flow) ? state.flows[flow].latestArrival : INVALID_ARGUMENT;
    }

    // ---- traces

    public int appendCharacter(int character) {
        if (!isBetween(character, 0, MOST_CODE)) {
            return INVALID_ARGUMENT;
        }
        if (trace.isFull()) {
            return CAPACITY_EXCEEDED;
        }
        trace.append(character);
        return trace.length;
    }

    public int clearText() {
        int previous = trace.length;
        trace.clear();
        return previous;
    }

    public int runTrace() {
        int error = trace.errorPosition();
        if (error != NO_ERROR) {
            return TRACE_ERROR - error;
        }
        savedStates.push(state);
        int executed = 0;
        trace.rewind();
        for (int item = 0; item < MOST_CHARACTERS && trace.readItem(); item++) {
            if (runItem()) {
                executed++;
            }
        }
        trace.clear();
        return executed;
    }

    // ---- undo and snapshots

    public int undo() {
        if (savedStates.count == 0) {
            return ILLEGAL_STATE;
        }
        savedStates.popInto(state);
        return savedStates.count;
    }

    public int save(int slot) {
        if (!isBetween(slot, 0, SLOTS - 1)) {
            return INVALID_ARGUMENT;
        }
        snapshots[slot].copyFrom(state);
        slotFilled[slot] = true;
        return state.time;
    }

    public int restore(int slot) {
        if (!isBetween(slot, 0, SLOTS - 1)) {
            return INVALID_ARGUMENT;
        }
        if (!slotFilled[slot]) {
            return ILLEGAL_STATE;
        }
        state.copyFrom(snapshots[slot]);
        savedStates.discardAll();
        return state.time;
    }

    private static boolean isBetween(int value, int least, int most) {
        return least <= value && value <= most;
    }

    // No call can bring a divisor below 1 here; it is tested all the same, so that no division can fail.
    private static int remainder(int value, int divisor) {
        return divisor < 1 ? 0 : value % divisor;
    }

    private static boolean isFlow(int flow) {
        return isBetween(flow, 0, FLOWS - 1);
    }

    private static boolean isSize(int size) {
        return isBetween(size, 1, MOST_SIZE);
    }

    // Not by the public methods: the whole trace is undone at once, so its items save no state.
    private boolean runItem() {
        boolean possible;
        if (trace.itemIsPacket) {
            possible = isFlow(trace.itemFlow) && isSize(trace.itemAmount);
            if (possible) {
                state.sendPacket(trace.itemFlow, trace.itemAmount);
            }
        } else {
            possible = isBetween(trace.itemAmount, 1, MOST_TICKS) && state.hasTimeFor(trace.itemAmount);
            if (possible) {
                state.letTimePass(trace.itemAmount);
            }
        }
        return possible;
    }

    /** One path with its queue, its load estimator and its counters. */
    private static final class Path {
        int delay;
        int rate;
        int remoteLevel;
        int register;
        int busyUntil;
        int packetCount;
        int byteCount;
        int dropCount;

        void reset() {
            delay = 10;
            rate = 10;
            remoteLevel = 0;
            register = 0;
            busyUntil = 0;
            packetCount = 0;
            byteCount = 0;
            dropCount = 0;
        }

        void copyFrom(Path other) {
            delay = other.delay;
            rate = other.rate;
            remoteLevel = other.remoteLevel;
            register = other.register;
            busyUntil = other.busyUntil;
            packetCount = other.packetCount;
            byteCount = other.byteCount;
            dropCount = other.dropCount;
        }

        int congestion() {
            int level = Math.min(register / LOAD_OF_ONE_LEVEL, MOST_LEVEL);
            return Math.max(level, remoteLevel);
        }

        void decay(int shift) {
            register -= register >> shift;
        }

        int waitAt(int time) {
            return Math.max(busyUntil - time, 0);
        }

        boolean dropsAt(int time) {
            return waitAt(time) > MOST_BUSY_TIME;
        }

        int ticksToTransmit(int size) {
            return rate < 1 ? 0 : (size + rate - 1) / rate;
        }

        int ticksToArrive(int time, int size) {
            return waitAt(time) + ticksToTransmit(size) + delay;
        }

        void transmit(int time, int size) {
            busyUntil = time + waitAt(time) + ticksToTransmit(size);
            register += size;
            packetCount++;
            byteCount += size;
        }
    }

    /** One entry of the flowlet table; its path is NONE as long as it is unused. */
    private static final class Entry {
        boolean valid;
        int path;
        int latest;
        int age;

        void reset() {
            valid = false;
            path = NONE;
            latest = 0;
            age = 0;
        }

        void copyFrom(Entry other) {
            valid = other.valid;
            path = other.path;
            latest = other.latest;
            age = other.age;
        }

        boolean isUnused() {
            return path == NONE;
        }

        void take(int newPath, int time) {
            valid = true;
            path = newPath;
            latest = time;
            age = 0;
        }

        void growOlder() {
            if (valid && age == 1) {
                valid = false;
            } else if (valid) {
                age = 1;
            }
        }
    }

    /** What is counted of one flow; its path and arrival are NONE before a packet gets through. */
    private static final class Flow {
        int flowletCount;
        int changeCount;
        int reorderCount;
        int latestPath;
        int latestArrival;

        void reset() {
            flowletCount = 0;
            changeCount = 0;
            reorderCount = 0;
            latestPath = NONE;
            latestArrival = NONE;
        }

        void copyFrom(Flow other) {
            flowletCount = other.flowletCount;
            changeCount = other.changeCount;
            reorderCount = other.reorderCount;
            latestPath = other.latestPath;
            latestArrival = other.latestArrival;
        }

        // NONE lies before every time, so the first packet of a flow overtakes nothing.
        boolean isOvertakenBy(int arrival) {
            return arrival < latestArrival;
        }

        void deliver(int path, int arrival) {
            if (latestPath != NONE && latestPath != path) {
                changeCount++;
            }
            if (isOvertakenBy(arrival)) {
                reorderCount++;
            }
            latestPath = path;
            latestArrival = Math.max(latestArrival, arrival);
        }
    }

    /** Everything that undo and the snapshots bring back. */
    private static final class SwitchState {
        int pathCount;
        int entryCount;
        int time;
        int mode;
        int detection;
        int gap;
        int shift;
        int generator;
        int turn;
        final Path[] paths = new Path[MOST_PATHS];
        final Entry[] entries = new Entry[MOST_ENTRIES];
        final Flow[] flows = new Flow[FLOWS];

        SwitchState() {
            for (int path = 0; path < MOST_PATHS; path++) {
                paths[path] = new Path();
            }
            for (int entry = 0; entry < MOST_ENTRIES; entry++) {
                entries[entry] = new Entry();
            }
            for (int flow = 0; flow < FLOWS; flow++) {
                flows[flow] = new Flow();
            }
            reset(MOST_PATHS, MOST_ENTRIES);
        }

        void reset(int newPathCount, int newEntryCount) {
            pathCount = newPathCount;
            entryCount = newEntryCount;
            time = 0;
            mode = BY_LOAD;
            detection = TIMESTAMPS;
            gap = 20;
            shift = 2;
            generator = 1;
            turn = 0;
            for (int path = 0; path < MOST_PATHS; path++) {
                paths[path].reset();
            }
            for (int entry = 0; entry < MOST_ENTRIES; entry++) {
                entries[entry].reset();
            }
            for (int flow = 0; flow < FLOWS; flow++) {
                flows[flow].reset();
            }
        }

        void copyFrom(SwitchState other) {
            pathCount = other.pathCount;
            entryCount = other.entryCount;
            time = other.time;
            mode = other.mode;
            detection = other.detection;
            gap = other.gap;
            shift = other.shift;
            generator = other.generator;
            turn = other.turn;
            for (int path = 0; path < MOST_PATHS; path++) {
                paths[path].copyFrom(other.paths[path]);
            }
            for (int entry = 0; entry < MOST_ENTRIES; entry++) {
                entries[entry].copyFrom(other.entries[entry]);
            }
            for (int flow = 0; flow < FLOWS; flow++) {
                flows[flow].copyFrom(other.flows[flow]);
            }
        }

        boolean hasPath(int path) {
            return isBetween(path, 0, pathCount - 1);
        }

        // The choice of a path gives no other numbers than those of paths; the test is for the index alone.
        Path pathAt(int number) {
            return paths[hasPath(number) ? number : 0];
        }

        boolean hasEntry(int entry) {
            return isBetween(entry, 0, entryCount - 1);
        }

        boolean hasTimeFor(int ticks) {
            return ticks <= MOST_TIME - time;
        }

        int entryNumber(int flow) {
            return remainder(7 * flow + 3, entryCount);
        }

        int countFlowsOfEntry(int entry) {
            int count = 0;
            for (int flow = 0; flow < FLOWS; flow++) {
                if (entryNumber(flow) == entry) {
                    count++;
                }
            }
            return count;
        }

        boolean isInUse(Entry entry) {
            return entry.valid && (detection == AGE_BITS || time - entry.latest <= gap);
        }

        int countEntriesInUse() {
            int count = 0;
            for (int entry = 0; entry < entryCount; entry++) {
                if (isInUse(entries[entry])) {
                    count++;
                }
            }
            return count;
        }

        int spreadOfLatencies(int size) {
            int least = paths[0].ticksToArrive(time, size);
            int most = least;
            for (int path = 1; path < pathCount; path++) {
                int ticks = paths[path].ticksToArrive(time, size);
                least = Math.min(least, ticks);
                most = Math.max(most, ticks);
            }
            return most - least;
        }

        int spreadOfBytes() {
            int least = paths[0].byteCount;
            int most = least;
            for (int path = 1; path < pathCount; path++) {
                least = Math.min(least, paths[path].byteCount);
                most = Math.max(most, paths[path].byteCount);
            }
            return most - least;
        }

        void letTimePass(int ticks) {
            for (int tick = 0; tick < ticks; tick++) {
                time++;
                if (time % DECAY_PERIOD == 0) {
                    decayLoads();
                }
                if (detection == AGE_BITS && remainder(time, gap) == 0) {
                    ageEntries();
                }
            }
        }

        void decayLoads() {
            for (int path = 0; path < pathCount; path++) {
                paths[path].decay(shift);
            }
        }

        void ageEntries() {
            for (int entry = 0; entry < entryCount; entry++) {
                entries[entry].growOlder();
            }
        }

        boolean usesTable() {
            return mode == BY_LOAD || mode == AT_RANDOM;
        }

        int pathFor(int flow) {
            if (mode == BY_FLOW) {
                return remainder(flow, pathCount);
            }
            if (mode == BY_PACKET) {
                return turn;
            }
            Entry entry = entries[entryNumber(flow)];
            if (isInUse(entry)) {
                return entry.path;
            }
            return mode == BY_LOAD ? leastCongestedPath(entry.path) : randomPath();
        }

        int leastCongestedPath(int pathOfEntry) {
            int best = 0;
            for (int path = 1; path < pathCount; path++) {
                if (paths[path].congestion() < paths[best].congestion()) {
                    best = path;
                }
            }
            boolean keepsPath = hasPath(pathOfEntry)
                    && paths[pathOfEntry].congestion() == paths[best].congestion();
            return keepsPath ? pathOfEntry : best;
        }

        int randomPath() {
            return remainder(nextGenerator() / 65536, pathCount);
        }

        // The wrap-around of int loses only multiples of 2^32, which the modulus 2^31 divides.
        int nextGenerator() {
            return (1103515245 * generator + 12345) & LOW_31_BITS;
        }

        int sendPacket(int flow, int size) {
            int chosen = pathFor(flow);
            noteChoice(flow, chosen);
            Path path = pathAt(chosen);
            if (path.dropsAt(time)) {
                path.dropCount++;
                return DROPPED + chosen;
            }
            flows[flow].deliver(chosen, time + path.ticksToArrive(time, size));
            path.transmit(time, size);
            return chosen;
        }

        void noteChoice(int flow, int chosen) {
            if (usesTable()) {
                noteInTable(flow, chosen);
            } else if (mode == BY_PACKET) {
                // The number of paths only changes together with a new turn, so the remainder will do.
                turn = remainder(turn + 1, pathCount);
            }
        }

        void noteInTable(int flow, int chosen) {
            Entry entry = entries[entryNumber(flow)];
            if (!isInUse(entry)) {
                flows[flow].flowletCount++;
                if (mode == AT_RANDOM) {
                    generator = nextGenerator();
                }
            }
            entry.take(chosen, time);
        }

        boolean wouldOvertake(int flow, int size) {
            Path path = pathAt(pathFor(flow));
            return !path.dropsAt(time) && flows[flow].isOvertakenBy(time + path.ticksToArrive(time, size));
        }
    }

    /** The states for undo, in a ring, so that the oldest one gives its place to a ninth. */
    private static final class SavedStates {
        final SwitchState[] ring = new SwitchState[MOST_SAVED_STATES];
        int next;
        int count;

        SavedStates() {
            for (int place = 0; place < MOST_SAVED_STATES; place++) {
                ring[place] = new SwitchState();
            }
        }

        void push(SwitchState present) {
            ring[next].copyFrom(present);
            next = (next + 1) % MOST_SAVED_STATES;
            count = Math.min(count + 1, MOST_SAVED_STATES);
        }

        void popInto(SwitchState present) {
            next = (next + MOST_SAVED_STATES - 1) % MOST_SAVED_STATES;
            count--;
            present.copyFrom(ring[next]);
        }

        void discardAll() {
            count = 0;
        }
    }

    /** The text, and a reader that stops at the first character that may not stand where it stands. */
    private static final class Trace {
        final int[] codes = new int[MOST_CHARACTERS];
        int length;
        int position;
        boolean itemIsPacket;
        int itemFlow;
        int itemAmount;

        boolean isFull() {
            return length >= MOST_CHARACTERS;
        }

        void append(int code) {
            codes[length] = code;
            length++;
        }

        void clear() {
            length = 0;
        }

        void rewind() {
            position = 0;
            skipSpaces();
        }

        int errorPosition() {
            rewind();
            boolean readable = !isAtEnd();
            for (int item = 0; item < MOST_CHARACTERS && readable && !isAtEnd(); item++) {
                readable = readItem();
            }
            return readable ? NO_ERROR : position;
        }

        boolean readItem() {
            itemIsPacket = accept('f');
            if (itemIsPacket) {
                itemFlow = readNumber();
                if (itemFlow == NO_NUMBER || !accept(',')) {
                    return false;
                }
            } else if (!accept('t')) {
                return false;
            }
            itemAmount = readNumber();
            return itemAmount != NO_NUMBER && accept(';');
        }

        // A digit too many is left standing: no element begins with it, so the next one refuses it there.
        int readNumber() {
            if (!isDigitHere()) {
                return NO_NUMBER;
            }
            int value = codeHere() - '0';
            position++;
            for (int digits = 1; digits < MOST_DIGITS && value != 0 && isDigitHere(); digits++) {
                value = 10 * value + codeHere() - '0';
                position++;
            }
            skipSpaces();
            return value;
        }

        boolean accept(char element) {
            if (codeHere() != element) {
                return false;
            }
            position++;
            skipSpaces();
            return true;
        }

        void skipSpaces() {
            while (position < length && codeHere() == ' ') {
                position++;
            }
        }

        boolean isAtEnd() {
            return position >= length;
        }

        boolean isDigitHere() {
            return isBetween(codeHere(), '0', '9');
        }

        int codeHere() {
            return isAtEnd() ? NO_CODE : codes[position];
        }
    }
}
