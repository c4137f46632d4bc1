/** Promises 20 to 28: the paths. */
final class PathsTest {
    public static void main(String[] args) {
        load();
        metric();
        busyTime();
        latency();
        safeGap();
        packetsBytesAndDrops();
        imbalance();
        noSuchPath();
        questionsChangeNothing();
        Script.finish();
    }

    private static void load() {
        Script.run("20", "setMode(0) = 1; load(1) = 0; send(1,30) = 1; load(1) = 30; send(5,70) = 1; load(1) = 100;"
                + "load(0) = 0; advance(9) = 9; load(1) = 100; advance(1) = 10; load(1) = 75; send(1,1) = 1; load(1) = 76");
    }

    private static void metric() {
        Script.run("21", "send(0,63) = 0; metric(0) = 0; send(0,1) = 0; metric(0) = 1; send(0,383) = 0; metric(0) = 6;"
                + "send(0,1) = 0; metric(0) = 7; send(0,500) = 0; metric(0) = 7; metric(1) = 0");
        Script.run("21: the greater level", "setMode(0) = 1; setRemoteLevel(0,2) = 0; metric(0) = 2; send(0,128) = 0; metric(0) = 2;"
                + "setRemoteLevel(0,3) = 2; metric(0) = 3; send(0,128) = 0; metric(0) = 4; setRemoteLevel(0,0) = 3;"
                + "metric(0) = 4");
    }

    private static void busyTime() {
        Script.run("22", "busyTime(0) = 0; advance(3) = 3; busyTime(0) = 0; send(0,95) = 0; busyTime(0) = 10; busyTime(1) = 0;"
                + "advance(9) = 12; busyTime(0) = 1; advance(1) = 13; busyTime(0) = 0; advance(50) = 63; busyTime(0) = 0");
    }

    private static void latency() {
        Script.run("23", "latency(0,1) = 11; latency(0,10) = 11; latency(0,11) = 12; latency(0,1000) = 110; send(0,100) = 0;"
                + "latency(0,1) = 21; latency(1,1) = 11; setDelay(0,0) = 10; latency(0,1) = 11; setRate(0,100) = 10;"
                + "latency(0,1000) = 20; advance(4) = 4; latency(0,1000) = 16; advance(50) = 54; latency(0,1000) = 10");
        Script.run("23: also if it would be dropped", "setRate(0,1) = 10; send(0,1000) = 0; latency(0,1) = 1011; send(0,1) = 10;"
                + "latency(0,1) = 1011");
        Script.run("23: out of range", "latency(0,0) = INVALID_ARGUMENT; latency(0,1001) = INVALID_ARGUMENT;"
                + "latency(0,-1) = INVALID_ARGUMENT; latency(4,1) = INVALID_ARGUMENT; latency(-1,1) = INVALID_ARGUMENT;"
                + "latency(0,2147483647) = INVALID_ARGUMENT; configure(3,8) = 2; latency(3,1) = INVALID_ARGUMENT");
    }

    private static void safeGap() {
        Script.run("24", "safeGap(1) = 0; safeGap(1000) = 0; setDelay(3,50) = 10; safeGap(10) = 40; setDelay(1,5) = 10;"
                + "safeGap(10) = 45; setRate(3,1) = 10; safeGap(10) = 54; setRate(3,100) = 1; safeGap(1000) = 50;"
                + "safeGap(10) = 45; setDelay(0,1) = 10; safeGap(10) = 49; setDelay(0,0) = 1; safeGap(10) = 50");
        Script.run("24: a busy path", "send(0,100) = 0; safeGap(1) = 10; advance(6) = 6; safeGap(1) = 4; advance(6) = 12; safeGap(1) = 0");
        Script.run("24: only paths that there are", "configure(2,8) = 2; setDelay(1,12) = 10; safeGap(1) = 2; setDelay(0,50) = 10;"
                + "safeGap(1) = 38; setRate(1,1) = 10; safeGap(1000) = 862");
        Script.run("24: out of range", "safeGap(0) = INVALID_ARGUMENT; safeGap(-5) = INVALID_ARGUMENT;"
                + "safeGap(1001) = INVALID_ARGUMENT");
    }

    private static void packetsBytesAndDrops() {
        Script.run("25 to 27", "setMode(0) = 1; send(2,7) = 2; send(6,8) = 2; send(3,9) = 3; packets(0) = 0; packets(2) = 2;"
                + "packets(3) = 1; bytes(0) = 0; bytes(2) = 15; bytes(3) = 9; drops(2) = 0; advance(100) = 100; packets(2) = 2;"
                + "bytes(2) = 15; setRate(2,1) = 10; send(2,1000) = 2; send(2,1) = 12; send(6,1) = 12; packets(2) = 3;"
                + "bytes(2) = 1015; drops(2) = 2; drops(3) = 0; undo() = 7; drops(2) = 1");
    }

    private static void imbalance() {
        Script.run("28", "imbalance() = 0; setMode(0) = 1; send(0,100) = 0; imbalance() = 100; send(1,30) = 1;"
                + "imbalance() = 100; send(2,20) = 2; send(3,50) = 3; imbalance() = 80; send(2,200) = 2; imbalance() = 190;"
                + "advance(1000) = 1000; imbalance() = 190");
        Script.run("28: only paths that there are", "configure(2,8) = 2; setMode(0) = 1; send(0,100) = 0; send(1,30) = 1;"
                + "imbalance() = 70; send(1,170) = 1; imbalance() = 100");
        Script.run("28: without dropped packets", "configure(2,8) = 2; setMode(0) = 1; setRate(0,1) = 10; send(0,300) = 0;"
                + "send(0,500) = 10; imbalance() = 300");
    }

    private static void noSuchPath() {
        String[] methods = {"load", "metric", "busyTime", "packets", "bytes", "drops"};
        for (String method : methods) {
            Script.run("20 to 27: no such path", "#(3) = 0; #(4) = INVALID_ARGUMENT; #(-1) = INVALID_ARGUMENT;"
                    .replace("#", method) + "#(2147483647) = INVALID_ARGUMENT; #(-2147483648) = INVALID_ARGUMENT;"
                    .replace("#", method) + "configure(2,8) = 2; #(1) = 0; #(2) = INVALID_ARGUMENT".replace("#", method));
        }
    }

    private static void questionsChangeNothing() {
        Script.run("20 to 28 save no state", "load(0) = 0; metric(0) = 0; busyTime(0) = 0; latency(0,1) = 11; safeGap(1) = 0;"
                + "packets(0) = 0; bytes(0) = 0; drops(0) = 0; imbalance() = 0; undo() = ILLEGAL_STATE");
    }
}
