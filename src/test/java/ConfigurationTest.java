/** Promises 1 to 10: a new object, configure and the setters. */
final class ConfigurationTest {
    private static final String FIRST_SETTINGS = " setMode(0) = 1; setDetection(0) = 0; setGap(1) = 20;"
            + " setShift(1) = 2; setGenerator(0) = 1; setDelay(0,0) = 10; setRate(0,1) = 10;"
            + " setRemoteLevel(0,7) = 0; setDelay(1,0) = 10; setRate(1,1) = 10; setRemoteLevel(1,7) = 0;";

    public static void main(String[] args) {
        newObject();
        objectsShareNothing();
        configure();
        configureMakesANewSwitch();
        setDelay();
        setRate();
        setRemoteLevel();
        setMode();
        setDetection();
        setGap();
        setShift();
        setGenerator();
        everySetterSavesTheState();
        Script.finish();
    }

    private static void newObject() {
        Script.run("1: settings", FIRST_SETTINGS + "setDelay(2,0) = 10; setRate(2,1) = 10;"
                + "setRemoteLevel(2,7) = 0; setDelay(3,0) = 10; setRate(3,1) = 10; setRemoteLevel(3,7) = 0");
        Script.run("1: counts of all", "now() = 0; activeEntries() = 0; imbalance() = 0; safeGap(1000) = 0");
        for (int path = 0; path < 4; path++) {
            Script.run("1: path", ("load(#) = 0; metric(#) = 0; busyTime(#) = 0; packets(#) = 0; bytes(#) = 0;"
                    + "drops(#) = 0; latency(#,10) = 11").replace("#", "" + path));
        }
        for (int entry = 0; entry < 8; entry++) {
            Script.run("1: entry", ("isActive(#) = 0; entryPath(#) = NONE; ageBit(#) = NONE; idleTime(#) = NONE")
                    .replace("#", "" + entry));
        }
        for (int flow = 0; flow < 16; flow++) {
            Script.run("1: flow", ("flowlets(#) = 0; pathChanges(#) = 0; reordered(#) = 0; lastArrival(#) = NONE;"
                    + "nextPath(#) = 0").replace("#", "" + flow));
        }
        Script.run("1: nothing written or saved", "undo() = ILLEGAL_STATE; restore(0) = ILLEGAL_STATE;"
                + "restore(1) = ILLEGAL_STATE; runTrace() = -10; clearText() = 0");
    }

    private static void objectsShareNothing() {
        FlowletSwitch one = new FlowletSwitch();
        Script.run("1: one object", one, "setMode(2) = 1; setDelay(1,3) = 10; send(5,40) = 0; advance(7) = 7; save(0) = 7;"
                + "text(\"t1\") = 2");
        FlowletSwitch other = new FlowletSwitch();
        Script.run("1: another object", other, "now() = 0; setMode(3) = 1; setDelay(1,4) = 10; packets(0) = 0;"
                + "lastArrival(5) = NONE; restore(0) = ILLEGAL_STATE; clearText() = 0; text(\"f0,\") = 3; undo() = 1; undo() = 0;"
                + "undo() = ILLEGAL_STATE; save(1) = 0");
        Script.run("1: the one object again", one, "now() = 7; packets(0) = 1; latency(1,10) = 4; nextPath(0) = 1;"
                + "restore(1) = ILLEGAL_STATE; text(\";\") = 3; runTrace() = 1; now() = 8; undo() = 4; setMode(2) = 2");
        Script.run("1: the other object again", other, "now() = 0; nextPath(0) = 0; clearText() = 3; restore(1) = 0");
    }

    private static void configure() {
        Script.run("2: flows of entry 0", "configure(4,1) = 16; configure(3,2) = 8; configure(2,3) = 6;"
                + "configure(4,4) = 4; configure(3,5) = 3; configure(2,6) = 3; configure(4,7) = 0; configure(4,8) = 2");
        Script.run("2: out of range", "configure(1,8) = INVALID_ARGUMENT; configure(5,8) = INVALID_ARGUMENT;"
                + "configure(2,0) = INVALID_ARGUMENT; configure(2,9) = INVALID_ARGUMENT;"
                + "configure(-2147483648,4) = INVALID_ARGUMENT; configure(2,2147483647) = INVALID_ARGUMENT;"
                + "configure(0,0) = INVALID_ARGUMENT; undo() = ILLEGAL_STATE; load(3) = 0; isActive(7) = 0");
        Script.run("2: numbers of paths and entries", "configure(3,5) = 3; load(2) = 0; load(3) = INVALID_ARGUMENT;"
                + "isActive(4) = 0; isActive(5) = INVALID_ARGUMENT; undo() = 0; load(3) = 0; isActive(7) = 0");
    }

    private static void configureMakesANewSwitch() {
        String change = "setMode(2) = 1; setDetection(1) = 0; setGap(7) = 20; setShift(4) = 2; setGenerator(9) = 1;"
                + "setDelay(0,50) = 10; setRate(0,3) = 10; setRemoteLevel(0,2) = 0; setDelay(1,1) = 10;"
                + "send(3,900) = 0; send(3,900) = 1; send(3,9) = 2; advance(8) = 8; setMode(1) = 2; send(3,5) = 2;"
                + "setMode(0) = 1; send(0,1) = 10;";
        Script.run("2: settings as at first", change + "configure(4,8) = 2; now() = 0;" + FIRST_SETTINGS);
        Script.run("2: counters as at first", change + "configure(4,8) = 2; packets(0) = 0; bytes(0) = 0; drops(0) = 0;"
                + "load(1) = 0; busyTime(1) = 0; imbalance() = 0; flowlets(3) = 0; pathChanges(3) = 0; reordered(3) = 0;"
                + "lastArrival(3) = NONE; activeEntries() = 0; entryPath(0) = NONE; idleTime(0) = NONE; ageBit(0) = NONE;"
                + "setMode(2) = 1; nextPath(0) = 0; send(3,1) = 0; pathChanges(3) = 0");
        Script.run("2: text, saved states and snapshots stay", "advance(3) = 3; save(0) = 3; text(\"t1\") = 2;"
                + "configure(2,1) = 16; now() = 0; clearText() = 2; undo() = 1; now() = 3; configure(2,1) = 16;"
                + "restore(0) = 3; load(3) = 0");
    }

    private static void setDelay() {
        Script.run("3", "setDelay(0,0) = 10; setDelay(0,50) = 0; setDelay(0,7) = 50; latency(0,10) = 8;"
                + "latency(1,10) = 11; send(0,20) = 0; lastArrival(0) = 9; setDelay(3,12) = 10; latency(3,1) = 13");
        Script.run("3: out of range", "setDelay(-1,5) = INVALID_ARGUMENT; setDelay(4,5) = INVALID_ARGUMENT;"
                + "setDelay(0,-1) = INVALID_ARGUMENT; setDelay(0,51) = INVALID_ARGUMENT;"
                + "setDelay(2147483647,0) = INVALID_ARGUMENT; latency(0,10) = 11; undo() = ILLEGAL_STATE;"
                + "configure(3,8) = 2; setDelay(3,5) = INVALID_ARGUMENT; setDelay(2,5) = 10");
    }

    private static void setRate() {
        Script.run("4", "setRate(0,1) = 10; setRate(0,100) = 1; setRate(0,3) = 100; latency(0,10) = 14;"
                + "latency(0,9) = 13; latency(1,10) = 11; setRate(3,5) = 10; latency(3,11) = 13");
        Script.run("4: the busy time stays", "send(0,100) = 0; busyTime(0) = 10; setRate(0,100) = 10; busyTime(0) = 10;"
                + "send(0,100) = 0; busyTime(0) = 11");
        Script.run("4: out of range", "setRate(-1,5) = INVALID_ARGUMENT; setRate(4,5) = INVALID_ARGUMENT;"
                + "setRate(0,0) = INVALID_ARGUMENT; setRate(0,-3) = INVALID_ARGUMENT; setRate(0,101) = INVALID_ARGUMENT;"
                + "latency(0,10) = 11; undo() = ILLEGAL_STATE; configure(2,8) = 2; setRate(2,5) = INVALID_ARGUMENT;"
                + "setRate(1,5) = 10");
    }

    private static void setRemoteLevel() {
        Script.run("5", "setRemoteLevel(0,7) = 0; metric(0) = 7; metric(1) = 0; nextPath(0) = 1;"
                + "setRemoteLevel(0,0) = 7; metric(0) = 0; nextPath(0) = 0; setRemoteLevel(3,1) = 0; metric(3) = 1");
        Script.run("5: out of range", "setRemoteLevel(-1,1) = INVALID_ARGUMENT; setRemoteLevel(4,1) = INVALID_ARGUMENT;"
                + "setRemoteLevel(0,-1) = INVALID_ARGUMENT; setRemoteLevel(0,8) = INVALID_ARGUMENT; metric(0) = 0;"
                + "undo() = ILLEGAL_STATE; configure(2,8) = 2; setRemoteLevel(2,1) = INVALID_ARGUMENT;"
                + "setRemoteLevel(1,1) = 0");
    }

    private static void setMode() {
        Script.run("6", "nextPath(5) = 0; setMode(0) = 1; nextPath(5) = 1; setMode(3) = 0; setMode(2) = 3;"
                + "nextPath(5) = 0; setMode(2) = 2; setMode(1) = 2");
        Script.run("6: out of range", "setMode(-1) = INVALID_ARGUMENT; setMode(4) = INVALID_ARGUMENT;"
                + "setMode(2147483647) = INVALID_ARGUMENT; undo() = ILLEGAL_STATE; setMode(1) = 1");
    }

    private static void setDetection() {
        Script.run("7", "setDetection(1) = 0; setDetection(1) = 1; setDetection(0) = 1; setDetection(0) = 0");
        Script.run("7: the entries stay", "send(0,1) = 0; advance(21) = 21; isActive(3) = 0; ageBit(3) = 0;"
                + "setDetection(1) = 0; isActive(3) = 1; ageBit(3) = 0; idleTime(3) = 21; setDetection(0) = 1; isActive(3) = 0");
        Script.run("7: out of range", "setDetection(-1) = INVALID_ARGUMENT; setDetection(2) = INVALID_ARGUMENT;"
                + "undo() = ILLEGAL_STATE; setDetection(0) = 0");
    }

    private static void setGap() {
        Script.run("8", "setGap(1) = 20; setGap(200) = 1; setGap(200) = 200");
        Script.run("8: the entries stay", "send(0,1) = 0; advance(21) = 21; isActive(3) = 0; setGap(21) = 20;"
                + "isActive(3) = 1; setGap(20) = 21; isActive(3) = 0; entryPath(3) = 0; idleTime(3) = 21; ageBit(3) = 0");
        Script.run("8: out of range", "setGap(0) = INVALID_ARGUMENT; setGap(-1) = INVALID_ARGUMENT;"
                + "setGap(201) = INVALID_ARGUMENT; undo() = ILLEGAL_STATE; setGap(20) = 20");
    }

    private static void setShift() {
        Script.run("9", "send(0,100) = 0; setShift(1) = 2; advance(10) = 10; load(0) = 50; setShift(4) = 1;"
                + "advance(10) = 20; load(0) = 47; setShift(3) = 4; advance(10) = 30; load(0) = 42; setShift(3) = 3");
        Script.run("9: out of range", "setShift(0) = INVALID_ARGUMENT; setShift(5) = INVALID_ARGUMENT;"
                + "setShift(-1) = INVALID_ARGUMENT; undo() = ILLEGAL_STATE; setShift(2) = 2");
    }

    // From 1 the generator becomes 1103527590, that is 16838 * 65536 + 32422; from 0 it becomes 12345.
    private static void setGenerator() {
        Script.run("10", "setMode(3) = 1; nextPath(0) = 2; setGenerator(0) = 1; nextPath(0) = 0; send(0,1) = 0;"
                + "setGenerator(2147483647) = 12345; setGenerator(1) = 2147483647; send(1,1) = 2;"
                + "setGenerator(0) = 1103527590");
        Script.run("10: out of range", "setGenerator(-1) = INVALID_ARGUMENT;"
                + "setGenerator(-2147483648) = INVALID_ARGUMENT; undo() = ILLEGAL_STATE; setGenerator(1) = 1");
    }

    private static void everySetterSavesTheState() {
        Script.run("3 to 10: undone", "setDelay(1,1) = 10; undo() = 0; latency(1,10) = 11; setRate(1,1) = 10; undo() = 0;"
                + "latency(1,10) = 11; setRemoteLevel(1,1) = 0; undo() = 0; metric(1) = 0; setMode(0) = 1; undo() = 0;"
                + "setMode(1) = 1; undo() = 0; setDetection(1) = 0; undo() = 0; setDetection(0) = 0; undo() = 0;"
                + "setGap(3) = 20; undo() = 0; setGap(20) = 20; undo() = 0; setShift(1) = 2; undo() = 0; setShift(2) = 2;"
                + "undo() = 0; setGenerator(5) = 1; undo() = 0; setGenerator(1) = 1; undo() = 0; undo() = ILLEGAL_STATE");
    }
}
