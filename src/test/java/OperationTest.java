/** Promises 11 and 12: advance and send, with the decay, the ageing, the modes and the drops. */
final class OperationTest {
    public static void main(String[] args) {
        advance();
        advanceAtTheEndOfTime();
        decay();
        ageing();
        send();
        byFlow();
        byLoad();
        byPacket();
        atRandom();
        dropped();
        sharedEntry();
        Script.finish();
    }

    private static void advance() {
        Script.run("11", "advance(1) = 1; advance(1000) = 1001; now() = 1001; undo() = 1; now() = 1; undo() = 0; now() = 0");
        Script.run("11: out of range", "advance(0) = INVALID_ARGUMENT; advance(-1) = INVALID_ARGUMENT;"
                + "advance(1001) = INVALID_ARGUMENT; advance(-2147483648) = INVALID_ARGUMENT;"
                + "advance(2147483647) = INVALID_ARGUMENT; now() = 0; undo() = ILLEGAL_STATE");
    }

    // No 512 calls reach the end of time, so this one goes beyond what is promised of one object.
    private static void advanceAtTheEndOfTime() {
        FlowletSwitch late = new FlowletSwitch();
        for (int call = 0; call < 999; call++) {
            late.advance(1000);
        }
        Script.due("11: end of time", "advance(999)", late.advance(999), 999999);
        Script.due("11: end of time", "advance(2)", late.advance(2), FlowletSwitch.ILLEGAL_STATE);
        Script.due("11: end of time", "advance(1001)", late.advance(1001), FlowletSwitch.INVALID_ARGUMENT);
        Script.due("11: end of time", "now()", late.now(), 999999);
        Script.append(late, "t2;t1;t1;");
        Script.due("37: end of time", "runTrace()", late.runTrace(), 1);
        Script.due("37: end of time", "now()", late.now(), 1000000);
        Script.due("11: end of time", "advance(1)", late.advance(1), FlowletSwitch.ILLEGAL_STATE);
        Script.due("11: end of time", "undo()", late.undo(), 7);
        Script.due("11: end of time", "now()", late.now(), 999999);
    }

    private static void decay() {
        Script.run("11: decay", "send(0,103) = 0; send(1,1000) = 1; advance(9) = 9; load(0) = 103; advance(1) = 10;"
                + "load(0) = 78; load(1) = 750; load(2) = 0; advance(20) = 30; load(0) = 45; load(1) = 423");
        Script.run("11: decay of small registers", "send(0,3) = 0; advance(100) = 100; load(0) = 3; setShift(1) = 2;"
                + "advance(10) = 110; load(0) = 2; advance(10) = 120; load(0) = 1; advance(10) = 130; load(0) = 1");
        Script.run("11: decay of every path", "configure(3,8) = 2; setMode(0) = 1; send(0,64) = 0; send(1,64) = 1;"
                + "send(2,64) = 2; advance(10) = 10; load(0) = 48; load(1) = 48; load(2) = 48");
    }

    private static void ageing() {
        Script.run("11: age bits", "setDetection(1) = 0; setGap(6) = 20; advance(4) = 4; send(0,1) = 0; send(1,1) = 0;"
                + "advance(1) = 5; ageBit(3) = 0; advance(1) = 6; ageBit(3) = 1; ageBit(2) = 1; isActive(3) = 1;"
                + "send(0,1) = 0; ageBit(3) = 0; advance(5) = 11; ageBit(2) = 1; advance(1) = 12; ageBit(2) = NONE;"
                + "isActive(2) = 0; entryPath(2) = 0; idleTime(2) = 8; ageBit(3) = 1; isActive(3) = 1; activeEntries() = 1;"
                + "advance(6) = 18; ageBit(3) = NONE; activeEntries() = 0; send(1,1) = 0; ageBit(2) = 0; flowlets(1) = 2;"
                + "flowlets(0) = 1");
        Script.run("11: no ageing by timestamps", "setGap(5) = 20; send(0,1) = 0; advance(100) = 100; ageBit(3) = 0;"
                + "isActive(3) = 0; setDetection(1) = 0; isActive(3) = 1; advance(5) = 105; ageBit(3) = 1;"
                + "setDetection(0) = 1; advance(5) = 110; ageBit(3) = 1; setDetection(1) = 0; advance(4) = 114;"
                + "isActive(3) = 1; advance(1) = 115; isActive(3) = 0");
        Script.run("11: several rounds in one call", "setDetection(1) = 0; setGap(1) = 20; send(0,1) = 0; advance(2) = 2;"
                + "isActive(3) = 0; ageBit(3) = NONE; undo() = 3; advance(1) = 1; isActive(3) = 1; ageBit(3) = 1");
        Script.run("11: the first and the last entry age", "setDetection(1) = 0; entryOf(3) = 0; entryOf(12) = 7;"
                + "send(3,1) = 0; send(12,1) = 0; advance(20) = 20; ageBit(0) = 1; ageBit(7) = 1; advance(20) = 40;"
                + "ageBit(0) = NONE; ageBit(7) = NONE");
    }

    private static void send() {
        Script.run("12", "send(15,1000) = 0; load(0) = 1000; busyTime(0) = 100; packets(0) = 1; bytes(0) = 1000;"
                + "lastArrival(15) = 110; isActive(4) = 1; idleTime(4) = 0; undo() = 0; load(0) = 0; busyTime(0) = 0;"
                + "packets(0) = 0; bytes(0) = 0; lastArrival(15) = NONE; isActive(4) = 0; flowlets(15) = 0");
        Script.run("12: out of range", "send(-1,1) = INVALID_ARGUMENT; send(16,1) = INVALID_ARGUMENT;"
                + "send(0,0) = INVALID_ARGUMENT; send(0,-1) = INVALID_ARGUMENT; send(0,1001) = INVALID_ARGUMENT;"
                + "send(2147483647,1) = INVALID_ARGUMENT; send(0,2147483647) = INVALID_ARGUMENT;"
                + "undo() = ILLEGAL_STATE; packets(0) = 0");
        Script.run("12: transmissions one after the other", "send(0,1) = 0; busyTime(0) = 1; send(0,10) = 0; busyTime(0) = 2;"
                + "send(0,11) = 0; busyTime(0) = 4; lastArrival(0) = 14; advance(3) = 3; busyTime(0) = 1; send(0,5) = 0;"
                + "busyTime(0) = 2; lastArrival(0) = 15; advance(7) = 10; busyTime(0) = 0; send(0,5) = 0; busyTime(0) = 1;"
                + "lastArrival(0) = 21");
    }

    private static void byFlow() {
        Script.run("12: mode 0", "setMode(0) = 1; send(0,64) = 0; send(5,64) = 1; send(15,64) = 3; send(5,64) = 1;"
                + "activeEntries() = 0; entryPath(3) = NONE; flowlets(0) = 0; flowlets(5) = 0; configure(3,8) = 2;"
                + "setMode(0) = 1; send(15,64) = 0; send(5,64) = 2");
    }

    private static void byLoad() {
        Script.run("12: mode 1, the smallest metric", "send(0,64) = 0; send(1,128) = 1; send(2,64) = 2; send(3,64) = 3;"
                + "send(4,63) = 0; send(5,1) = 0; send(6,1) = 2; send(7,64) = 2; flowlets(4) = 1; pathChanges(4) = 0");
        Script.run("12: mode 1, an equal path is kept", "setRemoteLevel(0,1) = 0; send(0,10) = 1; setRemoteLevel(0,0) = 1;"
                + "advance(20) = 20; nextPath(0) = 1; flowlets(0) = 1; advance(1) = 21; nextPath(0) = 1; send(0,64) = 1;"
                + "flowlets(0) = 2; nextPath(1) = 0; advance(21) = 42; load(1) = 40; nextPath(0) = 1; setRemoteLevel(1,1) = 0;"
                + "nextPath(0) = 0; setRemoteLevel(0,1) = 0; nextPath(0) = 2; setRemoteLevel(2,1) = 0;"
                + "setRemoteLevel(3,1) = 0; nextPath(0) = 1; nextPath(1) = 0");
        Script.run("12: mode 1, the gap counts from the latest packet", "send(0,64) = 0; advance(20) = 20; send(0,64) = 0;"
                + "advance(20) = 40; isActive(3) = 1; send(0,64) = 0; flowlets(0) = 1; advance(21) = 61; isActive(3) = 0;"
                + "load(0) = 69; send(0,1) = 1; flowlets(0) = 2; pathChanges(0) = 1; entryPath(3) = 1");
    }

    private static void byPacket() {
        Script.run("12: mode 2", "configure(3,8) = 2; setMode(2) = 1; send(0,1) = 0; send(0,1) = 1; send(7,1) = 2;"
                + "send(7,1) = 0; activeEntries() = 0; flowlets(0) = 0; setMode(0) = 2; send(0,1) = 0; send(0,1) = 0;"
                + "setMode(1) = 0; send(0,1) = 0; setMode(2) = 1; nextPath(0) = 1; nextPath(0) = 1; send(0,1) = 1;"
                + "undo() = 7; nextPath(3) = 1");
    }

    // From 1 the generator gives the numbers 16838, 5758, 10113, 17515: the paths 2, 2, 1, 3.
    private static void atRandom() {
        Script.run("12: mode 3", "setMode(3) = 1; send(0,1) = 2; send(0,1) = 2; send(8,1) = 2; flowlets(0) = 1;"
                + "flowlets(8) = 0; send(1,1) = 2; send(2,1) = 1; nextPath(3) = 3; nextPath(3) = 3; send(3,1) = 3;"
                + "flowlets(3) = 1; isActive(0) = 1; entryPath(0) = 3; advance(21) = 21; isActive(0) = 0; undo() = 7; undo() = 6;"
                + "send(3,1) = 3");
        Script.run("12: mode 3 with 3 paths", "configure(3,8) = 2; setMode(3) = 1; send(0,1) = 2; send(1,1) = 1; send(2,1) = 0;"
                + "send(3,1) = 1");
    }

    private static void dropped() {
        Script.run("12: busy for 200 and for 201 ticks", "setMode(0) = 1; setRate(0,1) = 10; send(0,200) = 0;"
                + "busyTime(0) = 200; send(4,1) = 0; busyTime(0) = 201; send(8,1) = 10; drops(0) = 1; packets(0) = 2;"
                + "bytes(0) = 201; load(0) = 201; busyTime(0) = 201; lastArrival(8) = NONE; advance(1) = 1; send(8,1) = 0;"
                + "drops(0) = 1; lastArrival(8) = 212");
        Script.run("12: a dropped packet changes the table", "setRate(0,1) = 10; send(0,1000) = 0; advance(20) = 20;"
                + "send(0,1) = 10; idleTime(3) = 0; advance(20) = 40; isActive(3) = 1; flowlets(0) = 1; setDetection(1) = 0;"
                + "advance(20) = 60; ageBit(3) = 1; send(8,1) = 10; ageBit(3) = 0; flowlets(8) = 0; lastArrival(8) = NONE");
        Script.run("12: a dropped packet changes the turn", "configure(2,8) = 2; setMode(2) = 1; setRate(0,1) = 10;"
                + "send(0,1000) = 0; send(0,1) = 1; send(0,1) = 10; send(0,1) = 1; pathChanges(0) = 1; send(0,1) = 10;"
                + "nextPath(0) = 1; drops(0) = 2; drops(1) = 0");
        Script.run("12: a dropped packet changes the generator", "setMode(3) = 1; setRate(2,1) = 10; send(0,1000) = 2;"
                + "send(1,1) = 12; flowlets(1) = 1; entryPath(2) = 2; send(2,1) = 1; send(3,1) = 3; lastArrival(1) = NONE;"
                + "drops(2) = 1; activeEntries() = 4");
    }

    private static void sharedEntry() {
        Script.run("12: flows that share an entry", "configure(4,1) = 16; send(0,64) = 0; send(1,64) = 0; send(15,64) = 0;"
                + "flowlets(0) = 1; flowlets(1) = 0; flowlets(15) = 0; advance(21) = 21; send(1,1) = 1; send(0,1) = 1;"
                + "flowlets(0) = 1; flowlets(1) = 1; activeEntries() = 1");
    }
}
