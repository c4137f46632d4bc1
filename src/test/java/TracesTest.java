/** Promises 35 to 37: the text and the trace in it. */
final class TracesTest {
    public static void main(String[] args) {
        appendCharacter();
        clearText();
        readableTexts();
        unreadableTexts();
        everyOtherCharacterIsRefused();
        runTrace();
        skippedItems();
        runTraceSavesOneState();
        Script.finish();
    }

    private static void appendCharacter() {
        Script.run("35", "appendCharacter(0) = 1; appendCharacter(255) = 2; appendCharacter(116) = 3;"
                + "appendCharacter(-1) = INVALID_ARGUMENT; appendCharacter(256) = INVALID_ARGUMENT;"
                + "appendCharacter(2147483647) = INVALID_ARGUMENT; clearText() = 3; undo() = ILLEGAL_STATE");
        Script.run("35: full", "text(\"" + "x".repeat(119) + "\") = 119; appendCharacter(120) = 120;"
                + "appendCharacter(120) = CAPACITY_EXCEEDED; appendCharacter(256) = INVALID_ARGUMENT;"
                + "appendCharacter(-1) = INVALID_ARGUMENT; clearText() = 120; appendCharacter(120) = 1");
    }

    private static void clearText() {
        Script.run("36", "clearText() = 0; text(\"t5;\") = 3; clearText() = 3; clearText() = 0; runTrace() = -10;"
                + "text(\"t6;\") = 3; runTrace() = 1; now() = 6; clearText() = 0");
        Script.run("36: the state stays", "advance(5) = 5; text(\"t5;\") = 3; clearText() = 3; now() = 5; undo() = 0");
    }

    private static void trace(String text, int due) {
        Script.run("37: '" + text + "'", "text(\"" + text + "\") = " + text.length() + "; runTrace() = " + due
                + "; clearText() = " + (due < 0 ? text.length() : 0) + "; undo() = " + (due < 0 ? -2 : 0));
    }

    private static void readableTexts() {
        trace("t1;", 1);
        trace("t1000;", 1);
        trace("f15,1000;", 1);
        trace("f0,1;", 1);
        trace("t1;f1,1;t1;", 3);
        trace(" t 1 ; ", 1);
        trace("  f  1  ,  1  ;  t  1  ;  ", 2);
        trace("t1;".repeat(40), 40);
        trace(" ".repeat(117) + "t1;", 1);
        trace("t1;" + " ".repeat(117), 1);
        trace("f0,9999;t9999;f9999,0;f16,1;t0;t1001;", 0);
    }

    private static void unreadableTexts() {
        trace(" ", -11);
        trace(" ".repeat(120), -130);
        trace("f", -11);
        trace("f ", -12);
        trace("f1", -12);
        trace("f1,", -13);
        trace("f1,1", -14);
        trace("f1,1 ", -15);
        trace("t", -11);
        trace("t1", -12);
        trace("t1234", -15);
        trace("t1;f", -14);
        trace("t1;t", -14);
        trace("t1; x", -14);
        trace("1", -10);
        trace(";", -10);
        trace(",", -10);
        trace(" ;", -11);
        trace("t;", -11);
        trace("t,", -11);
        trace("tt1;", -11);
        trace("t-1;", -11);
        trace("t1,", -12);
        trace("t1;;", -13);
        trace("f,1;", -11);
        trace("f1;", -12);
        trace("f1,;", -13);
        trace("f1,,1;", -13);
        trace("f1,1,", -14);
        trace("f1,1f", -14);
        trace("f1 1,1;", -13);
        trace("t1 1;", -13);
        trace("t1  1;", -14);
        trace("t01;", -12);
        trace("t00;", -12);
        trace("t0 0;", -13);
        trace("f00,1;", -12);
        trace("f1,00;", -14);
        trace("t12345;", -15);
        trace("f12345,1;", -15);
        trace("f1,12345;", -17);
        trace("t10000;", -15);
        trace("F1,1;", -10);
        trace("T1;", -10);
        trace("t1;\t", -13);
        trace("t1:", -12);
        trace("t/", -11);
        trace("t:", -11);
        trace("t1/", -12);
        trace("t1;".repeat(39) + "t1", -129);
        trace("t1;".repeat(39) + "t1,", -129);
        trace("t1;".repeat(39) + "tt;", -128);
    }

    private static void everyOtherCharacterIsRefused() {
        for (int code = 0; code < 256; code++) {
            FlowletSwitch object = new FlowletSwitch();
            object.appendCharacter(code);
            int position = code == ' ' || code == 'f' || code == 't' ? 1 : 0;
            Script.due("37: code " + code, "runTrace()", object.runTrace(), -10 - position);
        }
        for (int code = 0; code < 256; code++) {
            FlowletSwitch object = new FlowletSwitch();
            Script.append(object, "t7");
            object.appendCharacter(code);
            int due = code == ';' ? 1 : code == ' ' || code >= '0' && code <= '9' ? -13 : -12;
            Script.due("37: t7 and code " + code, "runTrace()", object.runTrace(), due);
        }
    }

    private static void runTrace() {
        Script.run("37", "text(\"f1,64; t25; f1,100; f9,30;\") = 26; runTrace() = 4; now() = 25; flowlets(1) = 2;"
                + "flowlets(9) = 0; packets(0) = 3; bytes(0) = 194; packets(1) = 0; bytes(1) = 0; clearText() = 0");
        Script.run("37: numbers", "text(\"t907;t34;f10,56;\") = 16; runTrace() = 3; now() = 941; bytes(0) = 56; flowlets(10) = 1");
        Script.run("37: an error anywhere runs nothing", "text(\"t5;f1,64;x\") = 10; runTrace() = -19; now() = 0; packets(0) = 0;"
                + "clearText() = 10; undo() = ILLEGAL_STATE");
        Script.run("37: a text that is kept can go on", "text(\"t5;t\") = 4; runTrace() = -14; text(\"6;\") = 6; runTrace() = 2;"
                + "now() = 11");
        Script.run("37: a dropped packet is executed", "setRate(0,1) = 10; text(\"f0,1000;f0,1;\") = 13; runTrace() = 2;"
                + "drops(0) = 1; packets(0) = 1");
    }

    private static void skippedItems() {
        Script.run("37: skipped", "text(\"f16,1;f0,0;f0,1001;t0;t1001;f15,1000;t1000;f0,1;\") = 48; runTrace() = 3; now() = 1000;"
                + "packets(0) = 2; bytes(0) = 1001");
        Script.run("37: all skipped", "text(\"t0;\") = 3; runTrace() = 0; clearText() = 0; now() = 0; undo() = 0");
    }

    private static void runTraceSavesOneState() {
        Script.run("37: one saved state", "advance(1) = 1; text(\"t1;t1;t1;f0,1;\") = 14; runTrace() = 4; now() = 4; packets(0) = 1;"
                + "undo() = 1; now() = 1; packets(0) = 0; clearText() = 0; undo() = 0; now() = 0");
    }
}
