/** The six examples of the document, as they stand there. */
final class ExamplesTest {
    public static void main(String[] args) {
        Script.run("example 1", "send(0,100) = 0; send(1,100) = 1; send(0,100) = 0; flowlets(0) = 1;"
                + " advance(21) = 21; nextPath(0) = 1; send(0,10) = 1; flowlets(0) = 2; pathChanges(0) = 1");
        Script.run("example 2", "configure(2,8) = 2; setDelay(0,50) = 10; setDelay(1,0) = 10; setMode(2) = 1;"
                + " send(3,20) = 0; send(3,20) = 1; reordered(3) = 1; lastArrival(3) = 52; safeGap(20) = 50");
        Script.run("example 3", "setDetection(1) = 0; setGap(10) = 20; send(2,64) = 0; advance(10) = 10;"
                + " ageBit(1) = 1; advance(10) = 20; isActive(1) = 0; ageBit(1) = -9; entryPath(1) = 0");
        Script.run("example 4", "appendCharacter(102) = 1; appendCharacter(49) = 2; appendCharacter(44) = 3;"
                + " appendCharacter(54) = 4; appendCharacter(52) = 5; appendCharacter(59) = 6;"
                + " appendCharacter(116) = 7; appendCharacter(53) = 8; appendCharacter(59) = 9; runTrace() = 2;"
                + " now() = 5; load(0) = 64; undo() = 0; now() = 0");
        Script.run("example 5", "send(16,1) = -1; send(0,0) = -1; setGap(201) = -1; appendCharacter(102) = 1;"
                + " appendCharacter(49) = 2; appendCharacter(59) = 3; runTrace() = -12; undo() = -2");
        Script.run("example 6", "setMode(0) = 1; setRate(0,1) = 10; send(0,201) = 0; send(0,1) = 10;"
                + " drops(0) = 1; busyTime(0) = 201");
        Script.finish();
    }
}
