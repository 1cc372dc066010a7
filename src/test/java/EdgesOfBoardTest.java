/** Each sentence of the promises 1 to 7 that names an edge. */
public final class EdgesOfBoardTest {
    private static final int INVALID = BlessedPins.INVALID_ARGUMENT;
    private static final int NOT_POSSIBLE = BlessedPins.NOT_POSSIBLE;
    private static final int LIMIT = BlessedPins.LIMIT_REACHED;
    private static final int NOT_FOUND = BlessedPins.NOT_FOUND;
    private static final int NONE = BlessedPins.NONE;
    private static final int[] FAR = {Integer.MIN_VALUE, Integer.MIN_VALUE + 1, -65536, -17, 1 << 20, Integer.MAX_VALUE};

    public static void main(String[] args) {
        newObject();
        netArguments();
        netNumbers();
        netRefusals();
        chipArguments();
        chipPinsTwice();
        chipRefusals();
        faultKinds();
        faultPlaces();
        faultOthers();
        faultRefusals();
        blessArguments();
        blessAnswers();
        pinArguments();
        pinAnswers();
        pinTouchedNow();
        faultArguments();
        faultAnswers();
        Check.finish("EdgesOfBoardTest");
    }

    private static void newObject() {
        Check.sentence(1, "Creates a board with its pins alone, on day 0");
        BlessedPins x = new BlessedPins();
        for (int what = 0; what <= 15; what++) {
            Check.due("count(" + what + ")", x.count(what), what == 5 ? 3 : 0);
        }
        Check.due("reached(6, NONE)", x.reached(6, NONE), 0);
        Check.due("scanned(0, NONE)", x.scanned(0, NONE), 0);
        Check.due("faultOf(0, 0)", x.faultOf(0, 0), INVALID);
        Check.due("undo()", x.undo(), NOT_POSSIBLE);
        Check.due("place(0)", x.place(0), NOT_FOUND);
        Check.sentence(1, "no fault is planted");
        x.net(3);
        x.bless(0, 127);
        x.fault(2, 0, 0);
        Check.due("test()", x.test(), 1);
        Check.sentence(1, "and none of them is the only suspect");
        Check.due("suspects() after the test", x.suspects(), 1024);
        Check.due("suspects() at first", new BlessedPins().suspects(), 1024);
        Check.due("bestDay(1) at first", new BlessedPins().bestDay(1), 1);
        Check.due("test() at first", new BlessedPins().test(), 1);
    }

    private static void netArguments() {
        Check.sentence(2, "pins: a set of pins, 2 to 5 of them; INVALID_ARGUMENT if pins is not such a set");
        BlessedPins x = new BlessedPins();
        int[] wrong = {0, 1, 2, 32768, 63, 65535, 65535 - 1023, -1, -3, 65536, 65537, 65536 + 3, 131072, 196608};
        for (int pins : wrong) {
            Check.due("net(" + pins + ")", x.net(pins), INVALID);
        }
        for (int pins : FAR) {
            Check.due("net(" + pins + ")", x.net(pins), INVALID);
            Check.due("net(" + (pins | 3) + ")", new BlessedPins().net(pins | 3), INVALID);
        }
        Check.due("count(0)", x.count(0), 0);
    }

    private static void netNumbers() {
        Check.sentence(2, "Returns its number");
        BlessedPins x = new BlessedPins();
        Check.due("the highest pins", x.net(49152), 0);
        Check.due("the lowest pins", x.net(31), 1);
        Check.due("pins that stand apart", x.net(32 + 8192), 2);
        Check.due("pinOf(15, 0)", x.pinOf(15, 0), 0);
        Check.due("pinOf(4, 0)", x.pinOf(4, 0), 1);
        Check.due("pinOf(13, 0)", x.pinOf(13, 0), 2);
    }

    private static void netRefusals() {
        Check.sentence(2, "NOT_POSSIBLE if one of them is in a net");
        BlessedPins x = new BlessedPins();
        x.net(1 + 32768);
        Check.due("one of two", x.net(32768 + 2), NOT_POSSIBLE);
        Check.due("one of five", x.net(1 + 2 + 4 + 8 + 16), NOT_POSSIBLE);
        Check.due("all", x.net(1 + 32768), NOT_POSSIBLE);
        Check.due("six, one of them in a net", x.net(63), INVALID);
        Check.due("one, in a net", x.net(1), INVALID);
        x.chip(2, 3, 16);
        Check.due("pins of a chip are free for a net", x.net(4 + 8 + 16), 1);
        Check.sentence(2, "LIMIT_REACHED if there are 8");
        BlessedPins y = new BlessedPins();
        for (int net = 0; net < 8; net++) {
            Check.due("the eighth is no limit", y.net(257 << net), net);
        }
        Check.due("a ninth has no free pin: NOT_POSSIBLE goes first", y.net(3), NOT_POSSIBLE);
        Check.due("a ninth that is no such set", y.net(1), INVALID);
        Check.due("count(0)", y.count(0), 8);
    }

    private static void chipArguments() {
        Check.sentence(3, "entry: 0 to 15; exit: 0 to 15; INVALID_ARGUMENT if an argument is out of range");
        int[] wrongPins = {-1, 16, 32, 31, -16};
        for (int pin : wrongPins) {
            Check.due("entry " + pin, new BlessedPins().chip(pin, 1, 0), INVALID);
            Check.due("exit " + pin, new BlessedPins().chip(0, pin, 0), INVALID);
        }
        for (int number : FAR) {
            Check.due("entry " + number, new BlessedPins().chip(number, 1, 0), INVALID);
            Check.due("exit " + number, new BlessedPins().chip(0, number, 0), INVALID);
            Check.due("cells " + number, new BlessedPins().chip(0, 1, number), INVALID);
        }
        Check.due("entry 0, exit 15", new BlessedPins().chip(0, 15, 0), 0);
        Check.due("entry 15, exit 0", new BlessedPins().chip(15, 0, 0), 0);
        Check.sentence(3, "cells: a set of pins, 5 of them at most");
        Check.due("none", new BlessedPins().chip(0, 1, 0), 0);
        Check.due("the highest one", new BlessedPins().chip(0, 1, 32768), 0);
        Check.due("the lowest one", new BlessedPins().chip(15, 14, 1), 0);
        Check.due("five", new BlessedPins().chip(0, 1, 31 << 11), 0);
        Check.due("six", new BlessedPins().chip(0, 1, 63 << 10), INVALID);
        Check.due("no pin", new BlessedPins().chip(0, 1, 65536), INVALID);
        Check.due("a pin and no pin", new BlessedPins().chip(0, 1, 65536 + 4), INVALID);
        Check.due("all below 0", new BlessedPins().chip(0, 1, -1), INVALID);
    }

    private static void chipPinsTwice() {
        Check.sentence(3, "or a pin is told twice");
        for (int pin = 0; pin < 16; pin++) {
            int free = (pin + 1) % 16;
            Check.due("entry and exit " + pin, new BlessedPins().chip(pin, pin, 0), INVALID);
            Check.due("entry and cell " + pin, new BlessedPins().chip(pin, free, 1 << pin), INVALID);
            Check.due("exit and cell " + pin, new BlessedPins().chip(free, pin, 1 << pin), INVALID);
            Check.due("no pin twice " + pin, new BlessedPins().chip(pin, free, 1 << (pin + 2) % 16), 0);
        }
    }

    private static void chipRefusals() {
        Check.sentence(3, "NOT_POSSIBLE if one of them is of a chip");
        BlessedPins x = new BlessedPins();
        x.chip(4, 5, 64 + 32768);
        int[] taken = {4, 5, 6, 15};
        for (int pin : taken) {
            Check.due("entry " + pin, x.chip(pin, 0, 0), NOT_POSSIBLE);
            Check.due("exit " + pin, x.chip(0, pin, 0), NOT_POSSIBLE);
            Check.due("one of five cells " + pin, x.chip(0, 1, 1 << pin | 1024 | 512 | 256 | 128), NOT_POSSIBLE);
            Check.due("told twice, too: " + pin, x.chip(pin, pin, 0), INVALID);
            Check.due("another one out of range, too: " + pin, x.chip(pin, 16, 0), INVALID);
        }
        x.net(3);
        Check.due("pins of a net are free for a chip", x.chip(0, 1, 0), 1);
        Check.sentence(3, "LIMIT_REACHED if there are 5");
        Check.due("the third", x.chip(2, 3, 0), 2);
        Check.due("the fourth", x.chip(7, 8, 0), 3);
        Check.due("the fifth is no limit", x.chip(9, 10, 0), 4);
        Check.due("a sixth", x.chip(11, 12, 0), LIMIT);
        Check.due("a sixth with cells", x.chip(11, 12, 8192), LIMIT);
        Check.due("a sixth, of a pin of a chip", x.chip(11, 10, 0), NOT_POSSIBLE);
        Check.due("a sixth, out of range", x.chip(11, 16, 0), INVALID);
        Check.due("count(1)", x.count(1), 5);
    }

    /** Three nets and two chips. */
    private static BlessedPins parts() {
        BlessedPins x = new BlessedPins();
        x.net(3);
        x.net(12);
        x.net(48);
        x.chip(6, 7, 0);
        x.chip(8, 9, 0);
        return x;
    }

    private static void faultKinds() {
        Check.sentence(4, "kind: 0 to 4");
        Check.due("-1", parts().fault(-1, 0, 0), INVALID);
        Check.due("5", parts().fault(5, 0, 0), INVALID);
        Check.due("5 with a second one", parts().fault(5, 0, 1), INVALID);
        for (int number : FAR) {
            Check.due("kind " + number, parts().fault(number, 0, 0), INVALID);
        }
        BlessedPins x = parts();
        for (int kind = 0; kind <= 4; kind++) {
            Check.due("kind " + kind, x.fault(kind, 0, kind == 1 ? 1 : 0), kind);
            Check.due("faultOf(" + kind + ", 0)", x.faultOf(kind, 0), kind);
        }
    }

    private static void faultPlaces() {
        Check.sentence(4, "of: the pin, the (first) net or the chip;"
                + " INVALID_ARGUMENT if an argument is out of range or there is no such net or chip");
        int[] many = {16, 2, 3, 3, 2};
        for (int kind = 0; kind <= 4; kind++) {
            int other = kind == 1 ? 2 : 0;
            Check.due("kind " + kind + " of -1", parts().fault(kind, -1, other), INVALID);
            Check.due("kind " + kind + " of the first", parts().fault(kind, 0, other), 0);
            Check.due("kind " + kind + " of the last", parts().fault(kind, many[kind] - 1, other), 0);
            Check.due("kind " + kind + " of the next", parts().fault(kind, many[kind], other), INVALID);
            for (int number : FAR) {
                Check.due("kind " + kind + " of " + number, parts().fault(kind, number, other), INVALID);
            }
        }
        Check.due("a net of nets without number", parts().fault(1, 7, 8), INVALID);
        Check.due("an open pin in no net", new BlessedPins().fault(0, 15, 0), 0);
        Check.due("no net", new BlessedPins().fault(2, 0, 0), INVALID);
        Check.due("no chip", new BlessedPins().fault(4, 0, 0), INVALID);
    }

    private static void faultOthers() {
        Check.sentence(4, "other: the second net of a short, greater than the first one");
        Check.due("the next one", parts().fault(1, 0, 1), 0);
        Check.due("the last one", parts().fault(1, 0, 2), 0);
        Check.due("none of that number", parts().fault(1, 0, 3), INVALID);
        Check.due("the last two", parts().fault(1, 1, 2), 0);
        Check.due("the same", parts().fault(1, 1, 1), INVALID);
        Check.due("the same, 0", parts().fault(1, 0, 0), INVALID);
        Check.due("smaller", parts().fault(1, 2, 1), INVALID);
        Check.due("-1", parts().fault(1, 0, -1), INVALID);
        for (int number : FAR) {
            Check.due("other " + number, parts().fault(1, 0, number), INVALID);
        }
        Check.sentence(4, "0 for all other kinds");
        for (int kind = 0; kind <= 4; kind++) {
            if (kind != 1) {
                Check.due("kind " + kind + ", 0", parts().fault(kind, 0, 0), 0);
                Check.due("kind " + kind + ", 1", parts().fault(kind, 0, 1), INVALID);
                Check.due("kind " + kind + ", -1", parts().fault(kind, 0, -1), INVALID);
                Check.due("kind " + kind + ", 2 behind it", parts().fault(kind, 1, 2), INVALID);
            }
        }
    }

    private static void faultRefusals() {
        Check.sentence(4, "NOT_POSSIBLE if there is the same fault");
        BlessedPins x = parts();
        x.fault(1, 0, 1);
        x.fault(0, 0, 0);
        x.fault(2, 0, 0);
        Check.due("the same short", x.fault(1, 0, 1), NOT_POSSIBLE);
        Check.due("the same open", x.fault(0, 0, 0), NOT_POSSIBLE);
        Check.due("the same low", x.fault(2, 0, 0), NOT_POSSIBLE);
        Check.due("the short the other way", x.fault(1, 1, 0), INVALID);
        Check.due("a short of the same first net", x.fault(1, 0, 2), 3);
        Check.due("a short of the same second net", x.fault(1, 1, 2), 4);
        Check.due("high of the same net", x.fault(3, 0, 0), 5);
        Check.due("dead of the same number", x.fault(4, 0, 0), 6);
        Check.due("open of the number of a net", x.fault(0, 1, 0), 7);
        Check.sentence(4, "LIMIT_REACHED if there are 10");
        Check.due("the ninth", x.fault(0, 2, 0), 8);
        Check.due("the tenth is no limit", x.fault(0, 3, 0), 9);
        Check.due("an eleventh", x.fault(0, 4, 0), LIMIT);
        Check.due("an eleventh, the same as the first", x.fault(1, 0, 1), NOT_POSSIBLE);
        Check.due("an eleventh, the same as the tenth", x.fault(0, 3, 0), NOT_POSSIBLE);
        Check.due("an eleventh, out of range", x.fault(0, 16, 0), INVALID);
        Check.due("count(2)", x.count(2), 10);
    }

    private static void blessArguments() {
        Check.sentence(5, "pin: 0 to 15; days: a set of days, 0 to 127; INVALID_ARGUMENT if an argument is out of range");
        BlessedPins x = new BlessedPins();
        Check.due("bless(-1, 0)", x.bless(-1, 0), INVALID);
        Check.due("bless(16, 0)", x.bless(16, 0), INVALID);
        Check.due("bless(0, -1)", x.bless(0, -1), INVALID);
        Check.due("bless(0, 128)", x.bless(0, 128), INVALID);
        Check.due("bless(0, 129)", x.bless(0, 129), INVALID);
        for (int number : FAR) {
            Check.due("bless(" + number + ", 0)", x.bless(number, 0), INVALID);
            Check.due("bless(0, " + number + ")", x.bless(0, number), INVALID);
        }
        Check.due("pinOf(0, 3)", x.pinOf(0, 3), 0);
        Check.due("bless(0, 0)", x.bless(0, 0), 0);
        Check.due("bless(0, 127)", x.bless(0, 127), 0);
        Check.due("bless(15, 127)", x.bless(15, 127), 0);
    }

    private static void blessAnswers() {
        Check.sentence(5, "Blesses a pin on some days of the week, in place of those before. Returns the set before");
        BlessedPins x = new BlessedPins();
        Check.due("none before", x.bless(7, 1 + 64), 0);
        Check.due("two before", x.bless(7, 2), 65);
        Check.due("they are gone: pinOf(7, 3)", x.pinOf(7, 3), 2);
        Check.due("the same again", x.bless(7, 2), 2);
        Check.due("none now", x.bless(7, 0), 2);
        Check.due("none again", x.bless(7, 0), 0);
        Check.due("another pin", x.bless(8, 127), 0);
        Check.due("pinOf(7, 3)", x.pinOf(7, 3), 0);
    }

    private static void pinArguments() {
        Check.sentence(6, "pin: 0 to 15; what: 0 to 4; INVALID_ARGUMENT if an argument is out of range");
        BlessedPins x = new BlessedPins();
        for (int what = 0; what <= 4; what++) {
            Check.due("pinOf(-1, " + what + ")", x.pinOf(-1, what), INVALID);
            Check.due("pinOf(16, " + what + ")", x.pinOf(16, what), INVALID);
        }
        Check.due("pinOf(0, -1)", x.pinOf(0, -1), INVALID);
        Check.due("pinOf(0, 5)", x.pinOf(0, 5), INVALID);
        for (int number : FAR) {
            Check.due("pinOf(" + number + ", 0)", x.pinOf(number, 0), INVALID);
            Check.due("pinOf(0, " + number + ")", x.pinOf(0, number), INVALID);
        }
    }

    private static void pinAnswers() {
        BlessedPins x = new BlessedPins();
        x.net(1 + 2);
        x.net(4 + 32768);
        x.chip(15, 0, 16384);
        x.chip(3, 4, 31 << 5);
        Check.sentence(6, "what: 0: its net; NOT_FOUND for 0 if it is in no net");
        Check.due("net 0", x.pinOf(1, 0), 0);
        Check.due("net 1", x.pinOf(15, 0), 1);
        Check.due("of a chip, but in no net", x.pinOf(14, 0), NOT_FOUND);
        Check.due("alone", x.pinOf(13, 0), NOT_FOUND);
        Check.sentence(6, "1: its chip; NOT_FOUND for 1 and 2 if it is of no chip");
        Check.due("chip 0", x.pinOf(0, 1), 0);
        Check.due("chip 1, the last of five cells", x.pinOf(9, 1), 1);
        Check.due("in a net, but of no chip", x.pinOf(2, 1), NOT_FOUND);
        Check.due("alone", x.pinOf(13, 1), NOT_FOUND);
        Check.due("in a net, but of no chip", x.pinOf(2, 2), NOT_FOUND);
        Check.due("alone", x.pinOf(13, 2), NOT_FOUND);
        Check.sentence(6, "2: 0 if it is an entry, 1 if an exit, 2 if a cell");
        Check.due("entry 15", x.pinOf(15, 2), 0);
        Check.due("exit 0", x.pinOf(0, 2), 1);
        Check.due("cell 14", x.pinOf(14, 2), 2);
        Check.due("entry 3", x.pinOf(3, 2), 0);
        Check.due("exit 4", x.pinOf(4, 2), 1);
        for (int cell = 5; cell <= 9; cell++) {
            Check.due("cell " + cell, x.pinOf(cell, 2), 2);
        }
        Check.sentence(6, "3: the days on which it is blessed");
        x.bless(15, 127);
        x.bless(0, 64);
        Check.due("all", x.pinOf(15, 3), 127);
        Check.due("the last", x.pinOf(0, 3), 64);
        Check.due("none", x.pinOf(14, 3), 0);
    }

    private static void pinTouchedNow() {
        Check.sentence(6, "4: 1 if it can be touched now, otherwise 0");
        BlessedPins x = new BlessedPins();
        x.chip(0, 1, 4);
        x.bless(0, 1);
        x.bless(1, 1);
        Check.due("blessed today", x.pinOf(0, 4), 1);
        Check.due("reached, but not touched", x.pinOf(2, 4), 0);
        x.vouch(15);
        Check.due("with a voucher", x.pinOf(15, 4), 1);
        x.bless(0, 126);
        Check.due("blessed on all other days", x.pinOf(0, 4), 0);
        x.pass(1);
        Check.due("blessed on the next day", x.pinOf(0, 4), 1);
        Check.due("with a voucher of yesterday", x.pinOf(15, 4), 0);
    }

    private static void faultArguments() {
        Check.sentence(7, "INVALID_ARGUMENT if an argument is out of range");
        Check.due("no fault at all", new BlessedPins().faultOf(0, 0), INVALID);
        BlessedPins x = parts();
        x.fault(1, 0, 1);
        Check.due("faultOf(0, 0)", x.faultOf(0, 0), 1);
        for (int what = 0; what <= 3; what++) {
            Check.due("faultOf(-1, " + what + "), NONE", x.faultOf(NONE, what), INVALID);
            Check.due("faultOf(1, " + what + "), the next", x.faultOf(1, what), INVALID);
        }
        Check.due("faultOf(0, -1)", x.faultOf(0, -1), INVALID);
        Check.due("faultOf(0, 4)", x.faultOf(0, 4), INVALID);
        for (int number : FAR) {
            Check.due("faultOf(" + number + ", 0)", x.faultOf(number, 0), INVALID);
            Check.due("faultOf(0, " + number + ")", x.faultOf(0, number), INVALID);
        }
        BlessedPins y = new BlessedPins();
        for (int pin = 0; pin < 10; pin++) {
            y.fault(0, pin + 6, 0);
        }
        Check.due("the tenth", y.faultOf(9, 1), 15);
        Check.due("an eleventh", y.faultOf(10, 1), INVALID);
    }

    private static void faultAnswers() {
        BlessedPins x = parts();
        x.fault(1, 1, 2);
        x.fault(0, 15, 0);
        x.fault(2, 2, 0);
        x.fault(3, 0, 0);
        x.fault(4, 1, 0);
        Check.sentence(7, "what: 0: its kind; 1: its pin, its (first) net or its chip");
        int[] kinds = {1, 0, 2, 3, 4};
        int[] places = {1, 15, 2, 0, 1};
        for (int fault = 0; fault < 5; fault++) {
            Check.due("faultOf(" + fault + ", 0)", x.faultOf(fault, 0), kinds[fault]);
            Check.due("faultOf(" + fault + ", 1)", x.faultOf(fault, 1), places[fault]);
        }
        Check.sentence(7, "2: the second net of a short; NOT_FOUND for 2 if it is no short");
        Check.due("a short", x.faultOf(0, 2), 2);
        for (int fault = 1; fault < 5; fault++) {
            Check.due("faultOf(" + fault + ", 2)", x.faultOf(fault, 2), NOT_FOUND);
        }
        Check.sentence(7, "3: its drawer; NOT_FOUND for 3 if it is in no drawer");
        for (int fault = 0; fault < 5; fault++) {
            Check.due("before: faultOf(" + fault + ", 3)", x.faultOf(fault, 3), NOT_FOUND);
            x.file(fault, kinds[fault]);
            Check.due("after: faultOf(" + fault + ", 3)", x.faultOf(fault, 3), kinds[fault]);
        }
    }
}
