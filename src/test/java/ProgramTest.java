/** Promises 29 to 32: the text, its fault, and programs. */
public final class ProgramTest {
    private static final int INVALID = BlessedPins.INVALID_ARGUMENT;
    private static final int NOT_POSSIBLE = BlessedPins.NOT_POSSIBLE;
    private static final int LIMIT = BlessedPins.LIMIT_REACHED;
    private static final int NOT_FOUND = BlessedPins.NOT_FOUND;

    public static void main(String[] args) {
        typing();
        forms();
        missingParts();
        otherwise();
        textsChange();
        fullTexts();
        running();
        runningIsOneChange();
        Check.finish("ProgramTest");
    }

    private static void typing() {
        Check.promise(29);
        BlessedPins x = new BlessedPins();
        Check.due("type(31)", x.type(31), INVALID);
        Check.due("type(127)", x.type(127), INVALID);
        Check.due("type(-1)", x.type(-1), INVALID);
        Check.due("type(65536 + 65)", x.type(65536 + 65), INVALID);
        for (int i = 1; i <= 100; i++) {
            Check.due("type", x.type(i % 2 == 0 ? 32 : 126), i);
        }
        Check.due("a hundred and first", x.type(32), LIMIT);
        Check.due("wrong", x.type(31), INVALID);
        Check.due("count(10)", x.count(10), 100);
        Check.due("no change", x.count(9), 0);
        Check.promise(30);
        Check.due("clearText()", x.clearText(), 100);
        Check.due("clearText()", x.clearText(), 0);
        Check.due("count(10)", x.count(10), 0);
        Check.due("type(32)", x.type(32), 1);
        Check.due("no change", x.count(9), 0);
    }

    /** Three nets, 0 to 2, of the pins 0 to 5; one chip of 6 and 7; a low net 0. */
    private static BlessedPins board() {
        BlessedPins x = new BlessedPins();
        x.net(3);
        x.net(12);
        x.net(48);
        x.chip(6, 7, 0);
        x.fault(2, 0, 0);
        return x;
    }

    private static void faultDue(String text, int at, int reason) {
        BlessedPins x = board();
        Check.promise(31);
        Check.write(x, text);
        Check.due("place(0) of '" + text + "'", x.place(0), at);
        Check.due("place(1) of '" + text + "'", x.place(1), reason);
        Check.promise(32);
        Check.due("run() of '" + text + "'", x.run(), NOT_POSSIBLE);
        Check.due("count(0) after '" + text + "'", x.count(0), 3);
        Check.due("count(2) after '" + text + "'", x.count(2), 1);
        Check.due("count(9) after '" + text + "'", x.count(9), 4);
    }

    private static void fineDue(String text, int commands) {
        BlessedPins x = board();
        Check.promise(31);
        Check.write(x, text);
        Check.due("place(0) of '" + text + "'", x.place(0), NOT_FOUND);
        Check.due("place(1) of '" + text + "'", x.place(1), NOT_FOUND);
        Check.promise(32);
        Check.due("run() of '" + text + "'", x.run(), commands);
    }

    private static void forms() {
        Check.promise(31);
        BlessedPins x = new BlessedPins();
        Check.due("place(-1)", x.place(-1), INVALID);
        Check.due("place(2)", x.place(2), INVALID);
        Check.due("place(0) without text", x.place(0), NOT_FOUND);
        fineDue("", 0);
        fineDue("    ", 0);
        fineDue("net 8 9;", 1);
        fineDue("  net   8    9  ;   ", 1);
        fineDue("net 08 9;low 1;", 2);
        fineDue("net 8 9 10 11 12;", 1);
        fineDue("chip 8 9;chip 10 11 12 13 14 15 5;", 2);
        fineDue("short 2 0;short 0 1;", 2);
        fineDue("bless 3;bless 3 0 1 2 3 4 5 6;bless 6 6;", 3);
        fineDue("open 15;high 0;dead 0;", 3);
        faultDue(";", 0, 1);
        faultDue("  ;", 2, 1);
        faultDue("net 8 9;;", 8, 1);
        faultDue("net 8 9; ; ", 9, 1);
        faultDue("net 8 9", 0, 1);
        faultDue("net 8 9; open 3", 9, 1);
        faultDue("net 8;", 0, 1);
        faultDue("net;", 0, 1);
        faultDue("net 8 9 10 11 12 13;", 0, 1);
        faultDue("net 8 8;", 0, 1);
        faultDue("net 8 9 08;", 0, 1);
        faultDue("net 20 20;", 0, 1);
        faultDue("net8 9;", 0, 1);
        faultDue("net 8 9x;", 0, 1);
        faultDue("net 8 -9;", 0, 1);
        faultDue("net 8,9;", 0, 1);
        faultDue("net 8 009;", 0, 1);
        faultDue("net 8 9 net;", 0, 1);
        faultDue("Net 8 9;", 0, 1);
        faultDue("nets 8 9;", 0, 1);
        faultDue("ne t 8 9;", 0, 1);
        faultDue("8 9;", 0, 1);
        faultDue("chip 8;", 0, 1);
        faultDue("chip 8 9 10 11 12 13 14 15;", 0, 1);
        faultDue("chip 8 9 8;", 0, 1);
        faultDue("open;", 0, 1);
        faultDue("open 1 2;", 0, 1);
        faultDue("short 1;", 0, 1);
        faultDue("short 1 1;", 0, 1);
        faultDue("short 0 1 2;", 0, 1);
        faultDue("low;", 0, 1);
        faultDue("high;", 0, 1);
        faultDue("dead;", 0, 1);
        faultDue("high 0 1;", 0, 1);
        faultDue("dead 0 0;", 0, 1);
        faultDue("bless;", 0, 1);
        faultDue("bless 1 2 2;", 0, 1);
        faultDue("bless 1 0 1 2 3 4 5 6 7;", 0, 1);
        faultDue("bless 16 7 7;", 0, 1);
    }

    private static void missingParts() {
        faultDue("net 8 16;", 0, 2);
        faultDue(" net 99 0;", 1, 2);
        faultDue("chip 6 7 16;", 0, 2);
        faultDue("chip 16 7;", 0, 2);
        faultDue("open 16;", 0, 2);
        faultDue("short 0 3;", 0, 2);
        faultDue("short 3 0;", 0, 2);
        faultDue("low 3;", 0, 2);
        faultDue("high 3;", 0, 2);
        faultDue("dead 1;", 0, 2);
        faultDue("bless 16;", 0, 2);
        faultDue("bless 0 7;", 0, 2);
        faultDue("bless 0 6 10;", 0, 2);
        fineDue("net 8 9;high 3;", 2);
        faultDue("high 3;net 8 9;", 0, 2);
        fineDue("chip 8 9;dead 1;", 2);
    }

    private static void otherwise() {
        faultDue("net 5 8;", 0, 3);
        faultDue("net 8 9;net 9 10;", 8, 3);
        faultDue("chip 8 7;", 0, 3);
        faultDue("chip 8 9;chip 10 11 8;", 9, 3);
        faultDue("low 0;", 0, 3);
        faultDue("open 1;open 01;", 7, 3);
        faultDue("short 1 0;   short 0 1;", 13, 3);
        faultDue("chip 0 1;chip 2 3;chip 4 5;chip 8 9;chip 10 11;", 36, 3);
        faultDue("open 0;open 1;open 2;open 3;open 4;open 5;open 6;open 7;open 8;open 9;", 63, 3);
        faultDue("low 0;net 1;", 0, 3);
    }

    private static void textsChange() {
        Check.promise(31);
        BlessedPins x = new BlessedPins();
        Check.write(x, "low 0;");
        Check.due("place(0)", x.place(0), 0);
        Check.due("place(1)", x.place(1), 2);
        x.net(3);
        Check.due("the board is that of now", x.place(1), NOT_FOUND);
        Check.write(x, "lo");
        Check.due("place(0)", x.place(0), 6);
        x.clearText();
        Check.due("place(0) of an empty text", x.place(0), NOT_FOUND);
        Check.due("place(1) of an empty text", x.place(1), NOT_FOUND);
        Check.promise(32);
        Check.due("run() of an empty text", x.run(), 0);
    }

    /** With all 100 characters the text has no place behind its end. */
    private static void fullTexts() {
        fineDue(" ".repeat(100), 0);
        fineDue("low 1;" + " ".repeat(94), 1);
        fineDue(" ".repeat(94) + "low 1;", 1);
        fineDue("net " + " ".repeat(92) + "8 9;", 1);
        faultDue("x".repeat(100), 0, 1);
        faultDue(" ".repeat(99) + "x", 99, 1);
        faultDue(" ".repeat(99) + ";", 99, 1);
        faultDue("low 1;" + " ".repeat(89) + "low 1", 95, 1);
        faultDue("open" + " ".repeat(96), 0, 1);
        faultDue("net 8 9 10 11 12" + " 13".repeat(28), 0, 1);
        faultDue(";".repeat(100), 0, 1);
    }

    private static void running() {
        Check.promise(32);
        BlessedPins x = new BlessedPins();
        Check.write(x, "net 0 1 2;net 4 5;chip 6 7 8;short 1 0;open 2;low 1;high 0;dead 0;bless 9 1 6;bless 9 5 3");
        Check.due("without the last ';'", x.run(), NOT_POSSIBLE);
        Check.due("its place", x.place(0), 78);
        x.type(';');
        Check.due("run()", x.run(), 10);
        Check.due("the text stays", x.count(10), 90);
        Check.due("count(0)", x.count(0), 2);
        Check.due("pinOf(2, 0)", x.pinOf(2, 0), 0);
        Check.due("pinOf(5, 0)", x.pinOf(5, 0), 1);
        x.bless(0, 1);
        x.bless(2, 1);
        Check.due("net 0 reads as one", x.reads(0, BlessedPins.NONE, 0, 1), 5);
        Check.due("pinOf(6, 2)", x.pinOf(6, 2), 0);
        Check.due("pinOf(7, 2)", x.pinOf(7, 2), 1);
        Check.due("pinOf(8, 2)", x.pinOf(8, 2), 2);
        int[] kinds = {1, 0, 2, 3, 4};
        int[] places = {0, 2, 1, 0, 0};
        for (int fault = 0; fault < 5; fault++) {
            Check.due("faultOf(" + fault + ", 0)", x.faultOf(fault, 0), kinds[fault]);
            Check.due("faultOf(" + fault + ", 1)", x.faultOf(fault, 1), places[fault]);
        }
        Check.due("faultOf(0, 2)", x.faultOf(0, 2), 1);
        Check.due("in place of those before", x.pinOf(9, 3), 8 + 32);
        Check.due("again", x.run(), NOT_POSSIBLE);
        Check.due("its place", x.place(0), 0);
        Check.due("its reason", x.place(1), 3);
    }

    private static void runningIsOneChange() {
        Check.promise(32);
        BlessedPins x = new BlessedPins();
        Check.due("no commands", x.run(), 0);
        Check.due("one change", x.count(9), 1);
        Check.rewrite(x, "net 0 1;open 0;");
        Check.due("run()", x.run(), 2);
        Check.due("one change", x.count(9), 2);
        Check.due("undo()", x.undo(), 1);
        Check.due("count(0)", x.count(0), 0);
        Check.due("count(2)", x.count(2), 0);
        Check.due("the text stays", x.count(10), 15);
        Check.due("run()", x.run(), 2);
        Check.due("a later fault is no suspect", x.suspects(), 1024);
        Check.due("undo()", x.undo(), 1);
        Check.due("undo()", x.undo(), 0);
    }
}
