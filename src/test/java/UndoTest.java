/** Promises 38 to 40: undo and the snapshots. */
final class UndoTest {
    public static void main(String[] args) {
        undo();
        onlySuccessfulChangesAreSaved();
        undoBringsTheWholeStateBack();
        save();
        restore();
        restoreBringsTheWholeStateBack();
        Script.finish();
    }

    private static void undo() {
        Script.run("38", "undo() = ILLEGAL_STATE; advance(1) = 1; advance(2) = 3; undo() = 1; now() = 1; undo() = 0; now() = 0;"
                + "undo() = ILLEGAL_STATE; advance(5) = 5; undo() = 0; now() = 0");
        Script.run("38: at most 8 states", "advance(1) = 1; advance(1) = 2; advance(1) = 3; advance(1) = 4; advance(1) = 5;"
                + "advance(1) = 6; advance(1) = 7; advance(1) = 8; advance(1) = 9; advance(1) = 10; undo() = 7; now() = 9;"
                + "undo() = 6; undo() = 5; undo() = 4; now() = 6; advance(100) = 106; undo() = 4; now() = 6; undo() = 3;"
                + "undo() = 2; undo() = 1; undo() = 0; now() = 2; undo() = ILLEGAL_STATE; now() = 2");
        Script.run("38: exactly 8 states", "advance(1) = 1; advance(1) = 2; advance(1) = 3; advance(1) = 4; advance(1) = 5;"
                + "advance(1) = 6; advance(1) = 7; advance(1) = 8; undo() = 7; undo() = 6; undo() = 5; undo() = 4; undo() = 3;"
                + "undo() = 2; undo() = 1; undo() = 0; now() = 0; undo() = ILLEGAL_STATE");
        Script.run("38: the text and the snapshots stay", "text(\"t\") = 1; advance(3) = 3; save(1) = 3; text(\"5;\") = 3; undo() = 0;"
                + "runTrace() = 1; now() = 5; restore(1) = 3");
    }

    private static void onlySuccessfulChangesAreSaved() {
        Script.run("38: calls that save nothing", "configure(1,1) = -1; setDelay(0,51) = -1; setRate(0,0) = -1;"
                + "setRemoteLevel(0,8) = -1; setMode(4) = -1; setDetection(2) = -1; setGap(0) = -1; setShift(0) = -1;"
                + "setGenerator(-1) = -1; advance(0) = -1; send(0,0) = -1; runTrace() = -10; save(2) = -1; restore(0) = -2;"
                + "save(0) = 0; appendCharacter(116) = 1; clearText() = 1; undo() = ILLEGAL_STATE");
        Script.run("38: calls that change nothing are saved", "setMode(1) = 1; setGap(20) = 20; setDelay(0,10) = 10;"
                + "configure(4,8) = 2; undo() = 3; undo() = 2; undo() = 1; undo() = 0; undo() = ILLEGAL_STATE");
    }

    private static final String EARLIER = "configure(3,7) = 0; setDelay(1,5) = 10; setRate(1,4) = 10; setRemoteLevel(2,3) = 0;"
            + "setMode(2) = 1; setDetection(1) = 0; setGap(6) = 20; setShift(3) = 2; setGenerator(77) = 1;"
            + "send(1,700) = 0; send(1,70) = 1; send(1,7) = 2; setRate(0,1) = 10; send(2,500) = 0; send(1,7) = 1;"
            + "send(1,7) = 2; send(1,7) = 10; setMode(1) = 2; send(4,3) = 1; advance(6) = 6; send(1,2) = 1;";

    private static final String LATER = "configure(2,8) = 2; setDelay(1,6) = 10; setRate(1,5) = 10; setRemoteLevel(1,4) = 0;"
            + "setGenerator(5) = 1; send(1,1) = 0; send(4,1) = 0;";

    // Flow 1: the arrivals are 80, 23, 11, 25, 12 and 27 (time 6): all but the first are reordered.
    private static final String SEEN_EARLIER = "now() = 6; load(2) = 14; load(3) = -1; isActive(6) = 0; isActive(7) = -1;"
            + "latency(1,4) = 22; latency(0,1) = 575; metric(2) = 3; metric(1) = 1; busyTime(1) = 16; packets(1) = 4; bytes(1) = 82;"
            + "drops(0) = 1; packets(0) = 2; bytes(0) = 1200; imbalance() = 1186; ageBit(3) = 0; idleTime(3) = 0; entryPath(3) = 1;"
            + "activeEntries() = 1; flowlets(4) = 1; flowlets(1) = 0; pathChanges(1) = 5; reordered(1) = 5; lastArrival(1) = 80;"
            + "setGenerator(1) = 77; setShift(1) = 3; setGap(1) = 6; setDetection(0) = 1; setMode(2) = 1; nextPath(0) = 1;"
            + "setRate(0,2) = 1; setDelay(1,0) = 5; setRemoteLevel(2,0) = 3; send(1,1) = 1; pathChanges(1) = 5";

    private static void undoBringsTheWholeStateBack() {
        Script.run("38: the first and the last entry and flow", "send(3,1) = 0; undo() = 0; isActive(0) = 0;"
                + "entryPath(0) = NONE; idleTime(0) = NONE; flowlets(3) = 0; send(12,1) = 0; undo() = 0; isActive(7) = 0;"
                + "entryPath(7) = NONE; send(0,1) = 0; undo() = 0; flowlets(0) = 0; lastArrival(0) = NONE; send(15,1) = 0;"
                + "undo() = 0; flowlets(15) = 0; lastArrival(15) = NONE");
        Script.run("38: seen directly", EARLIER + SEEN_EARLIER);
        Script.run("38: seen after undo", EARLIER + LATER + "undo() = 7; undo() = 6; undo() = 5; undo() = 4; undo() = 3;"
                + "undo() = 2; undo() = 1;" + SEEN_EARLIER);
    }

    private static void save() {
        Script.run("39", "save(0) = 0; advance(7) = 7; save(1) = 7; advance(1) = 8; save(0) = 8; restore(1) = 7; restore(0) = 8;"
                + "now() = 8");
        Script.run("39: saves nothing for undo", "save(0) = 0; undo() = ILLEGAL_STATE; advance(1) = 1; save(0) = 1; undo() = 0;"
                + "now() = 0");
        Script.run("39: out of range", "save(-1) = INVALID_ARGUMENT; save(2) = INVALID_ARGUMENT;"
                + "save(2147483647) = INVALID_ARGUMENT; restore(0) = ILLEGAL_STATE; restore(1) = ILLEGAL_STATE");
        Script.run("39: a copy", "send(0,10) = 0; save(0) = 0; send(0,10) = 0; setDelay(0,3) = 10; advance(4) = 4; restore(0) = 0;"
                + "packets(0) = 1; latency(0,10) = 12");
    }

    private static void restore() {
        Script.run("40", "restore(0) = ILLEGAL_STATE; restore(1) = ILLEGAL_STATE; advance(2) = 2; save(1) = 2;"
                + "restore(0) = ILLEGAL_STATE; undo() = 0; now() = 0; restore(1) = 2; now() = 2; advance(5) = 7; restore(1) = 2;"
                + "now() = 2; advance(3) = 5; undo() = 0; now() = 2");
        Script.run("40: the saved states are discarded", "advance(1) = 1; advance(1) = 2; save(0) = 2; restore(0) = 2;"
                + "undo() = ILLEGAL_STATE; advance(1) = 3; advance(1) = 4; undo() = 1; now() = 3; undo() = 0; now() = 2;"
                + "undo() = ILLEGAL_STATE");
        Script.run("40: a failed restore discards nothing", "advance(1) = 1; restore(1) = ILLEGAL_STATE;"
                + "restore(2) = INVALID_ARGUMENT; undo() = 0; now() = 0");
        Script.run("40: out of range", "save(0) = 0; save(1) = 0; restore(-1) = INVALID_ARGUMENT;"
                + "restore(2) = INVALID_ARGUMENT; restore(-2147483648) = INVALID_ARGUMENT");
        Script.run("40: the text stays", "save(0) = 0; text(\"t5;\") = 3; restore(0) = 0; runTrace() = 1; now() = 5");
        Script.run("40: the snapshot is kept as it was", "send(0,10) = 0; save(0) = 0; restore(0) = 0; send(0,10) = 0; advance(9) = 9;"
                + "packets(0) = 2; restore(0) = 0; packets(0) = 1; now() = 0");
    }

    private static void restoreBringsTheWholeStateBack() {
        Script.run("40: seen after restore", EARLIER + "save(1) = 6;" + LATER + "save(0) = 0; restore(1) = 6;" + SEEN_EARLIER);
    }
}
