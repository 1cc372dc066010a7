/** Promises 1 to 7: the new object, nets, chips, faults, blessings, and what is told of pins and faults. */
public final class BoardTest {
    private static final int INVALID = BlessedPins.INVALID_ARGUMENT;
    private static final int NOT_POSSIBLE = BlessedPins.NOT_POSSIBLE;
    private static final int LIMIT = BlessedPins.LIMIT_REACHED;
    private static final int NOT_FOUND = BlessedPins.NOT_FOUND;

    public static void main(String[] args) {
        newObject();
        nets();
        chips();
        faults();
        blessings();
        pins();
        faultsTold();
        Check.finish("BoardTest");
    }

    private static void newObject() {
        Check.promise(1);
        BlessedPins x = new BlessedPins();
        for (int what = 0; what <= 15; what++) {
            Check.due("count(" + what + ")", x.count(what), what == 5 ? 3 : 0);
        }
        Check.due("suspects()", x.suspects(), 1024);
        Check.due("undo()", x.undo(), NOT_POSSIBLE);
        for (int pin = 0; pin < 16; pin++) {
            Check.due("pinOf(" + pin + ", 0)", x.pinOf(pin, 0), NOT_FOUND);
            Check.due("pinOf(" + pin + ", 1)", x.pinOf(pin, 1), NOT_FOUND);
            Check.due("pinOf(" + pin + ", 3)", x.pinOf(pin, 3), 0);
            Check.due("pinOf(" + pin + ", 4)", x.pinOf(pin, 4), 0);
        }
        x.bless(0, 127);
        x.fault(0, 0, 0);
        Check.due("no fault is planted: test()", x.test(), 1);
        Check.due("no fault is planted: suspects()", x.suspects(), 1024);
    }

    private static void nets() {
        Check.promise(2);
        BlessedPins x = new BlessedPins();
        int[] wrong = {0, 1, 32768, 63, 65535, 65536, 65537, 65539, -1, -2, Integer.MIN_VALUE, Integer.MIN_VALUE + 3};
        for (int pins : wrong) {
            Check.due("net(" + pins + ")", x.net(pins), INVALID);
        }
        Check.due("count(9)", x.count(9), 0);
        Check.due("net(31), five pins", x.net(31), 0);
        Check.due("net(32769 - 1 + 32)", x.net(32768 + 32), 1);
        Check.due("net(48), pin 5 is in one", x.net(48), NOT_POSSIBLE);
        Check.due("net(17), both are in one", x.net(17), NOT_POSSIBLE);
        Check.due("net(1), wrong before not possible", x.net(1), INVALID);
        Check.due("count(0)", x.count(0), 2);
        Check.due("count(9)", x.count(9), 2);
        BlessedPins y = new BlessedPins();
        for (int i = 0; i < 8; i++) {
            Check.due("net of two", y.net(3 << 2 * i), i);
        }
        Check.due("a ninth", y.net(3), NOT_POSSIBLE);
        Check.due("a ninth, wrong", y.net(65536), INVALID);
        Check.due("count(0)", y.count(0), 8);
    }

    private static void chips() {
        Check.promise(3);
        BlessedPins x = new BlessedPins();
        Check.due("chip(-1, 0, 0)", x.chip(-1, 0, 0), INVALID);
        Check.due("chip(0, -1, 0)", x.chip(0, -1, 0), INVALID);
        Check.due("chip(16, 0, 0)", x.chip(16, 0, 0), INVALID);
        Check.due("chip(0, 16, 0)", x.chip(0, 16, 0), INVALID);
        Check.due("chip(0, 32, 0)", x.chip(0, 32, 0), INVALID);
        Check.due("chip(0, 1, -1)", x.chip(0, 1, -1), INVALID);
        Check.due("chip(0, 1, MIN)", x.chip(0, 1, Integer.MIN_VALUE), INVALID);
        Check.due("chip(0, 1, 65536)", x.chip(0, 1, 65536), INVALID);
        Check.due("six cells", x.chip(0, 1, 252), INVALID);
        Check.due("entry is exit", x.chip(4, 4, 0), INVALID);
        Check.due("entry is a cell", x.chip(4, 5, 16), INVALID);
        Check.due("exit is a cell", x.chip(4, 5, 32), INVALID);
        Check.due("five cells", x.chip(0, 1, 124), 0);
        Check.due("an entry is an exit", x.chip(1, 8, 0), NOT_POSSIBLE);
        Check.due("an exit is an entry", x.chip(8, 0, 0), NOT_POSSIBLE);
        Check.due("a cell is a cell", x.chip(8, 9, 64), NOT_POSSIBLE);
        Check.due("an entry is a cell", x.chip(6, 9, 0), NOT_POSSIBLE);
        Check.due("wrong before not possible", x.chip(6, 6, 0), INVALID);
        Check.due("no cells", x.chip(15, 7, 0), 1);
        Check.due("chip(8, 9, 0)", x.chip(8, 9, 0), 2);
        Check.due("chip(10, 11, 0)", x.chip(10, 11, 0), 3);
        Check.due("chip(12, 13, 0)", x.chip(12, 13, 0), 4);
        Check.due("a sixth with a pin of a chip", x.chip(14, 13, 0), NOT_POSSIBLE);
        Check.due("a pin of the first one", x.chip(14, 0, 0), NOT_POSSIBLE);
        BlessedPins y = new BlessedPins();
        for (int i = 0; i < 5; i++) {
            Check.due("chip", y.chip(2 * i, 2 * i + 1, 0), i);
        }
        Check.due("a sixth", y.chip(10, 11, 4096), LIMIT);
        Check.due("a sixth, not possible", y.chip(9, 11, 0), NOT_POSSIBLE);
        Check.due("a sixth, wrong", y.chip(10, 16, 0), INVALID);
        Check.due("count(1)", y.count(1), 5);
        Check.due("count(9)", y.count(9), 4);
    }

    private static void faults() {
        Check.promise(4);
        BlessedPins x = new BlessedPins();
        x.net(3);
        x.net(12);
        x.net(48);
        x.chip(6, 7, 0);
        Check.due("fault(-1, 0, 0)", x.fault(-1, 0, 0), INVALID);
        Check.due("fault(5, 0, 0)", x.fault(5, 0, 0), INVALID);
        Check.due("fault(0, -1, 0)", x.fault(0, -1, 0), INVALID);
        Check.due("fault(0, 16, 0)", x.fault(0, 16, 0), INVALID);
        Check.due("fault(0, 0, 1)", x.fault(0, 0, 1), INVALID);
        Check.due("fault(0, 0, -1)", x.fault(0, 0, -1), INVALID);
        Check.due("fault(1, 1, 0)", x.fault(1, 1, 0), INVALID);
        Check.due("fault(1, 1, 1)", x.fault(1, 1, 1), INVALID);
        Check.due("fault(1, 1, 3)", x.fault(1, 1, 3), INVALID);
        Check.due("fault(1, -1, 1)", x.fault(1, -1, 1), INVALID);
        Check.due("fault(1, 2, 3)", x.fault(1, 2, 3), INVALID);
        Check.due("fault(2, 3, 0)", x.fault(2, 3, 0), INVALID);
        Check.due("fault(2, 1, 2)", x.fault(2, 1, 2), INVALID);
        Check.due("fault(3, 3, 0)", x.fault(3, 3, 0), INVALID);
        Check.due("fault(3, 0, 1)", x.fault(3, 0, 1), INVALID);
        Check.due("fault(4, 1, 0)", x.fault(4, 1, 0), INVALID);
        Check.due("fault(4, 0, 1)", x.fault(4, 0, 1), INVALID);
        Check.due("count(2)", x.count(2), 0);
        Check.due("open of a pin in no net", x.fault(0, 15, 0), 0);
        Check.due("short", x.fault(1, 0, 1), 1);
        Check.due("short of others", x.fault(1, 0, 2), 2);
        Check.due("low", x.fault(2, 0, 0), 3);
        Check.due("high of the same net", x.fault(3, 0, 0), 4);
        Check.due("open of the pin with that number", x.fault(0, 0, 0), 5);
        Check.due("dead", x.fault(4, 0, 0), 6);
        Check.due("the same short", x.fault(1, 0, 2), NOT_POSSIBLE);
        Check.due("the same dead", x.fault(4, 0, 0), NOT_POSSIBLE);
        Check.due("the same open, but wrong", x.fault(0, 0, 2), INVALID);
        Check.due("count(2)", x.count(2), 7);
        x.fault(0, 1, 0);
        x.fault(0, 2, 0);
        Check.due("the tenth", x.fault(0, 3, 0), 9);
        Check.due("an eleventh", x.fault(0, 4, 0), LIMIT);
        Check.due("an eleventh, the same", x.fault(0, 3, 0), NOT_POSSIBLE);
        Check.due("an eleventh, wrong", x.fault(0, 16, 0), INVALID);
        Check.due("count(2)", x.count(2), 10);
    }

    private static void blessings() {
        Check.promise(5);
        BlessedPins x = new BlessedPins();
        Check.due("bless(-1, 1)", x.bless(-1, 1), INVALID);
        Check.due("bless(16, 1)", x.bless(16, 1), INVALID);
        Check.due("bless(0, 128)", x.bless(0, 128), INVALID);
        Check.due("bless(0, -128)", x.bless(0, -128), INVALID);
        Check.due("count(9)", x.count(9), 0);
        Check.due("bless(15, 127)", x.bless(15, 127), 0);
        Check.due("bless(15, 2)", x.bless(15, 2), 127);
        Check.due("bless(15, 0)", x.bless(15, 0), 2);
        Check.due("bless(15, 0)", x.bless(15, 0), 0);
        Check.due("also without a difference a change: count(9)", x.count(9), 4);
        Check.due("bless(0, 5)", x.bless(0, 5), 0);
        Check.due("reached(0, -1)", x.reached(0, -1), 1);
        Check.due("reached(1, -1)", x.reached(1, -1), 0);
        Check.due("reached(2, -1)", x.reached(2, -1), 1);
    }

    private static void pins() {
        Check.promise(6);
        BlessedPins x = new BlessedPins();
        x.net(3);
        x.net(12);
        x.chip(4, 5, 64);
        x.chip(2, 8, 32768);
        Check.due("pinOf(-1, 0)", x.pinOf(-1, 0), INVALID);
        Check.due("pinOf(16, 0)", x.pinOf(16, 0), INVALID);
        Check.due("pinOf(0, -1)", x.pinOf(0, -1), INVALID);
        Check.due("pinOf(0, 5)", x.pinOf(0, 5), INVALID);
        Check.due("pinOf(1, 0)", x.pinOf(1, 0), 0);
        Check.due("pinOf(3, 0)", x.pinOf(3, 0), 1);
        Check.due("pinOf(4, 0)", x.pinOf(4, 0), NOT_FOUND);
        Check.due("pinOf(4, 1)", x.pinOf(4, 1), 0);
        Check.due("pinOf(4, 2)", x.pinOf(4, 2), 0);
        Check.due("pinOf(5, 1)", x.pinOf(5, 1), 0);
        Check.due("pinOf(5, 2)", x.pinOf(5, 2), 1);
        Check.due("pinOf(6, 2)", x.pinOf(6, 2), 2);
        Check.due("pinOf(2, 1)", x.pinOf(2, 1), 1);
        Check.due("pinOf(2, 2)", x.pinOf(2, 2), 0);
        Check.due("pinOf(8, 2)", x.pinOf(8, 2), 1);
        Check.due("pinOf(15, 1)", x.pinOf(15, 1), 1);
        Check.due("pinOf(15, 2)", x.pinOf(15, 2), 2);
        Check.due("pinOf(7, 1)", x.pinOf(7, 1), NOT_FOUND);
        Check.due("pinOf(7, 2)", x.pinOf(7, 2), NOT_FOUND);
        x.bless(7, 66);
        Check.due("pinOf(7, 3)", x.pinOf(7, 3), 66);
        Check.due("pinOf(7, 4) on day 0", x.pinOf(7, 4), 0);
        x.pass(1);
        Check.due("pinOf(7, 4) on day 1", x.pinOf(7, 4), 1);
        x.vouch(9);
        Check.due("pinOf(9, 4) with a voucher", x.pinOf(9, 4), 1);
        Check.due("pinOf(9, 3) with a voucher", x.pinOf(9, 3), 0);
        x.bless(9, 2);
        x.bless(9, 0);
        Check.due("pinOf(9, 4), the voucher stays", x.pinOf(9, 4), 1);
        x.pass(7);
        Check.due("pinOf(9, 4) a week later", x.pinOf(9, 4), 0);
        Check.due("pinOf(7, 4) a week later", x.pinOf(7, 4), 1);
    }

    private static void faultsTold() {
        Check.promise(7);
        BlessedPins x = new BlessedPins();
        Check.due("faultOf(0, 0)", x.faultOf(0, 0), INVALID);
        Check.due("faultOf(-1, 0)", x.faultOf(-1, 0), INVALID);
        x.net(3);
        x.net(12);
        x.chip(4, 5, 0);
        x.chip(6, 7, 0);
        x.fault(0, 9, 0);
        x.fault(1, 0, 1);
        x.fault(4, 1, 0);
        Check.due("faultOf(3, 0)", x.faultOf(3, 0), INVALID);
        Check.due("faultOf(0, -1)", x.faultOf(0, -1), INVALID);
        Check.due("faultOf(0, 4)", x.faultOf(0, 4), INVALID);
        Check.due("faultOf(0, 0)", x.faultOf(0, 0), 0);
        Check.due("faultOf(0, 1)", x.faultOf(0, 1), 9);
        Check.due("faultOf(0, 2)", x.faultOf(0, 2), NOT_FOUND);
        Check.due("faultOf(0, 3)", x.faultOf(0, 3), NOT_FOUND);
        Check.due("faultOf(1, 0)", x.faultOf(1, 0), 1);
        Check.due("faultOf(1, 1)", x.faultOf(1, 1), 0);
        Check.due("faultOf(1, 2)", x.faultOf(1, 2), 1);
        Check.due("faultOf(2, 0)", x.faultOf(2, 0), 4);
        Check.due("faultOf(2, 1)", x.faultOf(2, 1), 1);
        x.file(2, 4);
        Check.due("faultOf(2, 3)", x.faultOf(2, 3), 4);
        x.file(0, 0);
        Check.due("faultOf(0, 3)", x.faultOf(0, 3), 0);
        x.undo();
        Check.due("faultOf(0, 3) after undo", x.faultOf(0, 3), NOT_FOUND);
    }
}
