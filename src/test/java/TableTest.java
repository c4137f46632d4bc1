/** Promises 13 to 19: the time and the flowlet table. */
final class TableTest {
    public static void main(String[] args) {
        now();
        entryOf();
        isActive();
        entryPath();
        ageBit();
        idleTime();
        activeEntries();
        questionsChangeNothing();
        Script.finish();
    }

    private static void now() {
        Script.run("13", "now() = 0; advance(7) = 7; now() = 7; send(0,1000) = 0; now() = 7; setGap(1) = 20; now() = 7;"
                + "configure(2,2) = 8; now() = 0; undo() = 3; now() = 7");
    }

    private static void entryOf() {
        Script.run("14", "entryOf(0) = 3; entryOf(1) = 2; entryOf(2) = 1; entryOf(3) = 0; entryOf(4) = 7; entryOf(15) = 4;"
                + "configure(4,5) = 3; entryOf(0) = 3; entryOf(1) = 0; entryOf(2) = 2; entryOf(15) = 3;"
                + "configure(4,7) = 0; entryOf(0) = 3; entryOf(15) = 3; configure(4,1) = 16; entryOf(15) = 0");
        Script.run("14: no such flow", "entryOf(-1) = INVALID_ARGUMENT; entryOf(16) = INVALID_ARGUMENT;"
                + "entryOf(2147483647) = INVALID_ARGUMENT; entryOf(-2147483648) = INVALID_ARGUMENT");
    }

    private static void isActive() {
        Script.run("15: timestamps", "isActive(3) = 0; send(0,1) = 0; isActive(3) = 1; isActive(2) = 0; setGap(4) = 20;"
                + "advance(4) = 4; isActive(3) = 1; advance(1) = 5; isActive(3) = 0; setGap(5) = 4; isActive(3) = 1");
        Script.run("15: age bits", "send(0,1) = 0; advance(300) = 300; isActive(3) = 0; setDetection(1) = 0;"
                + "isActive(3) = 1; isActive(2) = 0; advance(40) = 340; isActive(3) = 0");
        Script.run("15: an invalid entry is not active by timestamps", "setDetection(1) = 0; setGap(1) = 20;"
                + "send(0,1) = 0; advance(2) = 2; setDetection(0) = 1; setGap(200) = 1; isActive(3) = 0; activeEntries() = 0;"
                + "nextPath(0) = 0; send(0,1) = 0; flowlets(0) = 2; isActive(3) = 1");
        Script.run("15: no such entry", "isActive(-1) = INVALID_ARGUMENT; isActive(8) = INVALID_ARGUMENT;"
                + "configure(4,3) = 6; isActive(2) = 0; isActive(3) = INVALID_ARGUMENT");
    }

    private static void entryPath() {
        Script.run("16", "entryPath(3) = NONE; setRemoteLevel(0,7) = 0; send(0,1) = 1; entryPath(3) = 1; entryPath(2) = NONE;"
                + "advance(1000) = 1000; entryPath(3) = 1; setDetection(1) = 0; advance(1000) = 2000; ageBit(3) = NONE;"
                + "entryPath(3) = 1; setRemoteLevel(0,0) = 7; setRemoteLevel(1,1) = 0; send(0,1) = 0; entryPath(3) = 0");
        Script.run("16: no such entry", "entryPath(-1) = INVALID_ARGUMENT; entryPath(8) = INVALID_ARGUMENT;"
                + "configure(4,3) = 6; entryPath(2) = NONE; entryPath(3) = INVALID_ARGUMENT");
    }

    private static void ageBit() {
        Script.run("17", "ageBit(3) = NONE; send(0,1) = 0; ageBit(3) = 0; advance(40) = 40; ageBit(3) = 0;"
                + "setDetection(1) = 0; advance(20) = 60; ageBit(3) = 1; setDetection(0) = 1; ageBit(3) = 1;"
                + "send(8,1) = 0; ageBit(3) = 0");
        Script.run("17: no such entry", "ageBit(-1) = INVALID_ARGUMENT; ageBit(8) = INVALID_ARGUMENT;"
                + "configure(4,3) = 6; ageBit(2) = NONE; ageBit(3) = INVALID_ARGUMENT");
    }

    private static void idleTime() {
        Script.run("18", "idleTime(3) = NONE; advance(5) = 5; idleTime(3) = NONE; send(0,1) = 0; idleTime(3) = 0;"
                + "advance(9) = 14; idleTime(3) = 9; send(8,1) = 0; idleTime(3) = 0; idleTime(2) = NONE;"
                + "setDetection(1) = 0; advance(100) = 114; ageBit(3) = NONE; idleTime(3) = 100; setMode(0) = 1; send(0,1) = 0;"
                + "idleTime(3) = 100; setMode(2) = 0; send(0,1) = 0; idleTime(3) = 100; setMode(3) = 2; send(0,1) = 2;"
                + "idleTime(3) = 0");
        Script.run("18: no such entry", "idleTime(-1) = INVALID_ARGUMENT; idleTime(8) = INVALID_ARGUMENT;"
                + "configure(4,3) = 6; idleTime(2) = NONE; idleTime(3) = INVALID_ARGUMENT");
    }

    private static void activeEntries() {
        Script.run("19", "activeEntries() = 0; send(0,1) = 0; send(8,1) = 0; activeEntries() = 1; advance(10) = 10;"
                + "send(1,1) = 0; send(4,1) = 0; activeEntries() = 3; advance(10) = 20; activeEntries() = 3; advance(1) = 21;"
                + "activeEntries() = 2; setDetection(1) = 0; activeEntries() = 3; setDetection(0) = 1; advance(10) = 31;"
                + "activeEntries() = 0");
    }

    private static void questionsChangeNothing() {
        Script.run("13 to 19 save no state", "now() = 0; entryOf(0) = 3; isActive(0) = 0; entryPath(0) = NONE;"
                + "ageBit(0) = NONE; idleTime(0) = NONE; activeEntries() = 0; undo() = ILLEGAL_STATE");
    }
}
