/** Promises 29 to 34: the flows. */
final class FlowsTest {
    public static void main(String[] args) {
        nextPath();
        wouldReorder();
        flowlets();
        pathChanges();
        reordered();
        lastArrival();
        noSuchFlow();
        questionsChangeNothing();
        Script.finish();
    }

    private static void nextPath() {
        Script.run("29: by load", "nextPath(0) = 0; send(0,64) = 0; nextPath(0) = 0; nextPath(8) = 0; nextPath(1) = 1;"
                + "nextPath(1) = 1; flowlets(1) = 0; isActive(2) = 0; entryPath(2) = NONE; advance(21) = 21; nextPath(0) = 0");
        Script.run("29: by flow and by packet", "setMode(0) = 1; nextPath(7) = 3; nextPath(4) = 0; setMode(2) = 0;"
                + "nextPath(7) = 0; nextPath(7) = 0; send(7,1) = 0; nextPath(7) = 1");
        Script.run("29: at random", "setMode(3) = 1; nextPath(0) = 2; nextPath(0) = 2; setGenerator(1) = 1; send(0,1) = 2;"
                + "nextPath(0) = 2; send(1,1) = 2; nextPath(2) = 1; nextPath(0) = 2; setGenerator(0) = 377401575");
        Script.run("29: also if the packet would be dropped", "setMode(0) = 1; setRate(1,1) = 10; send(1,1000) = 1;"
                + "nextPath(1) = 1; send(1,1) = 11");
    }

    private static void wouldReorder() {
        String unequal = "configure(2,8) = 2; setDelay(0,50) = 10; setDelay(1,0) = 10; setMode(2) = 1;";
        Script.run("30", unequal + "wouldReorder(3,20) = 0; send(3,20) = 0; wouldReorder(3,20) = 1; wouldReorder(4,20) = 0;"
                + "wouldReorder(3,519) = 0; wouldReorder(3,511) = 0; wouldReorder(3,510) = 1; reordered(3) = 0; send(3,20) = 1;"
                + "reordered(3) = 1; wouldReorder(3,1) = 0; lastArrival(3) = 52");
        Script.run("30: an equal arrival is in order", unequal + "send(3,20) = 0; advance(50) = 50; wouldReorder(3,20) = 0;"
                + "wouldReorder(3,10) = 1; send(3,20) = 1; reordered(3) = 0; undo() = 6; send(3,10) = 1; reordered(3) = 1");
        Script.run("30: 0 if it would be dropped", "configure(2,8) = 2; setMode(2) = 1; setRate(0,1) = 10; send(0,201) = 0;"
                + "send(1,1) = 1; send(0,1000) = 10; setMode(2) = 2; send(0,1000) = 1; setDelay(1,50) = 10; send(1,1) = 10;"
                + "send(0,1000) = 1; lastArrival(0) = 251; reordered(0) = 1; setDelay(0,0) = 10; wouldReorder(0,1) = 0; nextPath(0) = 0;"
                + "advance(1) = 1; wouldReorder(0,1) = 1; send(0,1) = 0; reordered(0) = 2");
        Script.run("30: out of range", "wouldReorder(-1,1) = INVALID_ARGUMENT; wouldReorder(16,1) = INVALID_ARGUMENT;"
                + "wouldReorder(0,0) = INVALID_ARGUMENT; wouldReorder(0,1001) = INVALID_ARGUMENT;"
                + "wouldReorder(0,-1) = INVALID_ARGUMENT; wouldReorder(2147483647,1) = INVALID_ARGUMENT");
    }

    private static void flowlets() {
        Script.run("31", "send(0,1) = 0; send(0,1) = 0; flowlets(0) = 1; flowlets(8) = 0; advance(20) = 20; send(8,1) = 0;"
                + "flowlets(8) = 0; advance(21) = 41; send(8,1) = 0; flowlets(8) = 1; flowlets(0) = 1; setMode(0) = 1; send(1,1) = 1;"
                + "flowlets(1) = 0; setMode(2) = 0; send(1,1) = 0; flowlets(1) = 0; setMode(3) = 2; send(1,1) = 2; flowlets(1) = 1");
        Script.run("31: dropped packets included", "setMode(3) = 1; setRate(2,1) = 10; send(0,1000) = 2; send(1,1) = 12;"
                + "flowlets(1) = 1; send(1,1) = 12; flowlets(1) = 1");
    }

    private static void pathChanges() {
        Script.run("32", "setMode(2) = 1; send(0,1) = 0; pathChanges(0) = 0; send(0,1) = 1; pathChanges(0) = 1; send(1,1) = 2;"
                + "send(1,1) = 3; send(1,1) = 0; send(0,1) = 1; pathChanges(0) = 1; pathChanges(1) = 2; setMode(0) = 2;"
                + "send(0,1) = 0; send(0,1) = 0; pathChanges(0) = 2");
        Script.run("32: without dropped packets", "configure(2,8) = 2; setMode(2) = 1; setRate(0,1) = 10; send(1,500) = 0;"
                + "send(0,1) = 1; send(0,1) = 10; send(0,1) = 1; pathChanges(0) = 0; advance(400) = 400; send(0,1) = 0;"
                + "pathChanges(0) = 1");
        Script.run("32: a dropped first packet", "configure(2,8) = 2; setMode(2) = 1; setRate(0,1) = 10; send(1,500) = 0;"
                + "send(1,1) = 1; send(0,1) = 10; send(0,1) = 1; pathChanges(0) = 0");
    }

    // The third packet arrives after the second one but before the first: it is reordered as well.
    private static void reordered() {
        Script.run("33", "configure(2,8) = 2; setDelay(0,50) = 10; setDelay(1,0) = 10; setMode(2) = 1; send(3,20) = 0;"
                + "send(3,20) = 1; reordered(3) = 1; setMode(0) = 2; send(3,20) = 1; reordered(3) = 2; reordered(0) = 0;"
                + "send(1,20) = 1; reordered(1) = 0; lastArrival(3) = 52; advance(60) = 60; send(3,20) = 1; reordered(3) = 2;"
                + "undo() = 7; reordered(3) = 2; undo() = 6; undo() = 5; reordered(3) = 2; undo() = 4; reordered(3) = 1");
        Script.run("33: without dropped packets", "configure(2,8) = 2; setMode(0) = 1; setRate(0,1) = 10; send(0,300) = 0;"
                + "setDelay(0,0) = 10; setRate(0,100) = 1; send(0,1) = 10; reordered(0) = 0; advance(100) = 100; send(0,1) = 0;"
                + "reordered(0) = 1; lastArrival(0) = 310");
    }

    private static void lastArrival() {
        Script.run("34", "lastArrival(0) = NONE; send(0,20) = 0; lastArrival(0) = 12; lastArrival(8) = NONE; setDelay(0,0) = 10;"
                + "send(0,10) = 0; lastArrival(0) = 12; send(0,100) = 0; lastArrival(0) = 13; advance(100) = 100;"
                + "lastArrival(0) = 13; send(8,1) = 0; lastArrival(8) = 101; lastArrival(0) = 13");
        Script.run("34: dropped packets do not arrive", "setRate(0,1) = 10; send(0,300) = 0; lastArrival(0) = 310;"
                + "send(0,1) = 10; lastArrival(0) = 310; send(8,1) = 10; lastArrival(8) = NONE");
    }

    private static void noSuchFlow() {
        String[] methods = {"nextPath", "flowlets", "pathChanges", "reordered"};
        for (String method : methods) {
            Script.run("29 to 33: no such flow", ("#(0) = 0; #(15) = 0; #(16) = INVALID_ARGUMENT; #(-1) = INVALID_ARGUMENT;"
                    + "#(2147483647) = INVALID_ARGUMENT; #(-2147483648) = INVALID_ARGUMENT").replace("#", method));
        }
        Script.run("34: no such flow", "lastArrival(15) = NONE; lastArrival(16) = INVALID_ARGUMENT;"
                + "lastArrival(-1) = INVALID_ARGUMENT; lastArrival(-9) = INVALID_ARGUMENT");
    }

    private static void questionsChangeNothing() {
        Script.run("29 to 34 save no state", "nextPath(0) = 0; wouldReorder(0,1) = 0; flowlets(0) = 0; pathChanges(0) = 0;"
                + "reordered(0) = 0; lastArrival(0) = NONE; undo() = ILLEGAL_STATE");
    }
}
