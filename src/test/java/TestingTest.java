/** Promises 19 to 28: plantings, tests, vouchers, days, drawers, counts and the history. */
public final class TestingTest {
    private static final int INVALID = BlessedPins.INVALID_ARGUMENT;
    private static final int NOT_POSSIBLE = BlessedPins.NOT_POSSIBLE;
    private static final int LIMIT = BlessedPins.LIMIT_REACHED;
    private static final int NONE = BlessedPins.NONE;

    public static void main(String[] args) {
        plantings();
        tests();
        testsWithVouchers();
        vouching();
        voucherNumbers();
        days();
        bestDays();
        drawers();
        counts();
        undoing();
        errorsChangeNothing();
        Check.finish("TestingTest");
    }

    /** Three nets of two pins; low 0, low 1, open 0, and an open pin in no net. */
    private static BlessedPins board() {
        BlessedPins x = new BlessedPins();
        x.net(3);
        x.net(12);
        x.net(48);
        x.fault(2, 0, 0);
        x.fault(2, 1, 0);
        x.fault(0, 0, 0);
        x.fault(0, 9, 0);
        return x;
    }

    private static void plantings() {
        Check.promise(19);
        BlessedPins x = board();
        Check.due("plant(-2)", x.plant(-2), INVALID);
        Check.due("plant(4)", x.plant(4), INVALID);
        Check.due("plant(10)", x.plant(10), INVALID);
        Check.promise(24);
        Check.due("none before", x.suspects(), 1024);
        Check.promise(19);
        Check.due("plant(3)", x.plant(3), 5);
        Check.due("suspects()", x.suspects(), 1024 + 15);
        x.fault(2, 2, 0);
        Check.due("a later fault is no suspect", x.suspects(), 1024 + 15);
        x.bless(4, 127);
        Check.due("nor after a test", x.test(), 5);
        Check.due("plant(NONE)", x.plant(NONE), 6);
        Check.due("suspects()", x.suspects(), 1024 + 31);
    }

    private static void tests() {
        Check.promise(20);
        BlessedPins x = board();
        x.bless(0, 1);
        x.bless(1, 2);
        x.bless(0, 3);
        x.plant(NONE);
        Check.due("day 0", x.test(), 4);
        Check.due("suspects()", x.suspects(), 1024 + 2 + 4 + 8);
        x.pass(1);
        Check.due("day 1", x.test(), 3);
        Check.due("suspects()", x.suspects(), 1024 + 2 + 8);
        Check.due("again", x.test(), 3);
        Check.due("count(8)", x.count(8), 3);
        x.plant(2);
        Check.due("open on day 1", x.test(), 1);
        Check.due("suspects()", x.suspects(), 4);
        x.plant(3);
        x.pass(1);
        Check.due("nothing is touched", x.test(), 5);
        Check.due("count(8) is not of one planting", x.count(8), 5);
    }

    private static void testsWithVouchers() {
        Check.promise(20);
        BlessedPins x = board();
        x.plant(1);
        x.vouch(2);
        Check.due("with a voucher", x.test(), 1);
        Check.due("suspects()", x.suspects(), 2);
        x.plant(1);
        x.pass(7);
        Check.due("the voucher is gone", x.test(), 5);
        x.bless(2, 1);
        Check.due("blessings of now", x.test(), 1);
        BlessedPins y = new BlessedPins();
        y.fault(0, 0, 0);
        y.plant(0);
        y.bless(0, 1);
        y.bless(1, 1);
        Check.due("a pin in no net", y.test(), 2);
        y.net(3);
        Check.due("nets of now", y.test(), 1);
    }

    private static void vouching() {
        Check.promise(21);
        BlessedPins x = new BlessedPins();
        x.bless(5, 1);
        Check.due("vouch(-1)", x.vouch(-1), INVALID);
        Check.due("vouch(16)", x.vouch(16), INVALID);
        Check.due("a blessed one", x.vouch(5), NOT_POSSIBLE);
        Check.due("vouch(15)", x.vouch(15), 2);
        Check.due("twice", x.vouch(15), NOT_POSSIBLE);
        Check.due("vouch(1)", x.vouch(1), 1);
        Check.due("vouch(2)", x.vouch(2), 0);
        Check.due("none is left", x.vouch(3), LIMIT);
        Check.due("none is left, touched", x.vouch(2), NOT_POSSIBLE);
        Check.due("none is left, wrong", x.vouch(16), INVALID);
        Check.due("count(6)", x.count(6), 4);
        x.vouchers(1);
        x.bless(5, 2);
        Check.due("no more blessed today", x.vouch(5), 0);
        x.pass(1);
        Check.due("only what is blessed", x.count(6), 1);
    }

    private static void voucherNumbers() {
        Check.promise(22);
        BlessedPins x = new BlessedPins();
        Check.due("vouchers(-1)", x.vouchers(-1), INVALID);
        Check.due("vouchers(21)", x.vouchers(21), INVALID);
        Check.due("vouchers(20)", x.vouchers(20), 3);
        Check.due("vouchers(0)", x.vouchers(0), 20);
        Check.due("vouch(0)", x.vouch(0), LIMIT);
        Check.due("vouchers(1)", x.vouchers(1), 0);
        Check.due("vouch(0)", x.vouch(0), 0);
        Check.due("vouchers(2) leaves what is spent", x.vouchers(2), 0);
        Check.due("vouch(0)", x.vouch(0), NOT_POSSIBLE);
    }

    private static void days() {
        Check.promise(23);
        BlessedPins x = new BlessedPins();
        Check.due("pass(0)", x.pass(0), INVALID);
        Check.due("pass(-1)", x.pass(-1), INVALID);
        Check.due("pass(61)", x.pass(61), INVALID);
        Check.due("pass(MAX)", x.pass(Integer.MAX_VALUE), INVALID);
        Check.due("pass(1)", x.pass(1), 1);
        Check.due("pass(6)", x.pass(6), 0);
        Check.due("pass(60)", x.pass(60), 4);
        int day = 67;
        while (day + 60 <= 10000) {
            day += 60;
            Check.due("pass(60)", x.pass(60), day % 7);
        }
        Check.due("count(3)", x.count(3), 9967);
        Check.due("beyond the last day", x.pass(34), LIMIT);
        Check.due("wrong", x.pass(61), INVALID);
        Check.due("to the last day", x.pass(33), 10000 % 7);
        Check.due("count(3)", x.count(3), 10000);
        Check.due("count(4)", x.count(4), 4);
        Check.due("pass(1)", x.pass(1), LIMIT);
    }

    private static void bestDays() {
        Check.promise(25);
        BlessedPins x = board();
        Check.due("bestDay(-1)", x.bestDay(-1), INVALID);
        Check.due("bestDay(2)", x.bestDay(2), INVALID);
        x.pass(3);
        Check.due("all alike: the present day", x.bestDay(0), 3);
        Check.due("one suspect", x.bestDay(1), 1);
        x.plant(1);
        Check.due("nothing is told", x.bestDay(1), 5);
        Check.due("nothing is told", x.bestDay(0), 3);
        x.bless(0, 1 + 16);
        x.bless(2, 16);
        x.bless(1, 4);
        Check.due("day 4 is best", x.bestDay(0), 4);
        Check.due("low 0, low 1, and three", x.bestDay(1), 3);
        x.bless(2, 16 + 1);
        Check.due("day 4 comes before day 0", x.bestDay(0), 4);
        x.pass(2);
        Check.due("day 0 comes before day 4", x.bestDay(0), 0);
        x.pass(2);
        Check.due("the present day", x.bestDay(0), 0);
        BlessedPins y = new BlessedPins();
        y.net(3);
        y.fault(2, 0, 0);
        y.fault(0, 0, 0);
        y.bless(0, 1);
        y.plant(0);
        y.test();
        Check.due("fault 0 alone is left", y.bestDay(1), 1);
        BlessedPins z = new BlessedPins();
        for (int pin = 0; pin < 10; pin++) {
            z.fault(0, pin, 0);
        }
        z.pass(5);
        Check.due("all that there can be", z.plant(9), 11);
        Check.due("all eleven look alike", z.bestDay(1), 11);
        Check.due("on the present day, too", z.bestDay(0), 5);
        Check.promise(26);
        Check.due("the tenth into its drawer", z.file(9, 0), 1);
        Check.due("count(11)", z.count(11), 1);
        Check.promise(25);
        x.vouch(1);
        Check.due("vouchers do not count", x.bestDay(1), 3);
        x.test();
        Check.due("one is left", x.suspects(), 2);
        Check.due("bestDay(1)", x.bestDay(1), 1);
        Check.due("bestDay(0)", x.bestDay(0), 0);
    }

    private static void drawers() {
        Check.promise(26);
        BlessedPins x = board();
        x.fault(2, 2, 0);
        x.fault(0, 1, 0);
        x.fault(0, 2, 0);
        x.fault(0, 3, 0);
        Check.due("file(-1, 0)", x.file(-1, 0), INVALID);
        Check.due("file(8, 0)", x.file(8, 0), INVALID);
        Check.due("file(0, -1)", x.file(0, -1), INVALID);
        Check.due("file(0, 5)", x.file(0, 5), INVALID);
        Check.due("another kind", x.file(0, 3), NOT_POSSIBLE);
        Check.due("file(0, 2)", x.file(0, 2), 1);
        Check.due("again", x.file(0, 2), NOT_POSSIBLE);
        Check.due("file(1, 2)", x.file(1, 2), 2);
        Check.due("file(4, 2)", x.file(4, 2), 3);
        Check.due("again, and full", x.file(4, 2), NOT_POSSIBLE);
        Check.due("file(2, 0)", x.file(2, 0), 1);
        Check.due("file(3, 0)", x.file(3, 0), 2);
        Check.due("file(5, 0)", x.file(5, 0), 3);
        Check.due("full", x.file(6, 0), LIMIT);
        Check.due("another kind, and full", x.file(6, 2), NOT_POSSIBLE);
        Check.due("count(11)", x.count(11), 3);
        Check.due("count(13)", x.count(13), 3);
        Check.due("undo()", x.undo(), 3);
        Check.due("a place is free", x.file(6, 0), 3);
    }

    private static void counts() {
        Check.promise(27);
        BlessedPins x = board();
        x.chip(6, 7, 256);
        x.file(0, 2);
        x.bless(6, 2);
        x.pass(8);
        x.vouch(7);
        Check.write(x, "net 1");
        int[] want = {3, 1, 4, 8, 1, 2, 2, 3, 0, 4, 5, 0, 0, 1, 0, 0};
        for (int what = 0; what <= 15; what++) {
            Check.due("count(" + what + ")", x.count(what), want[what]);
        }
        Check.due("count(-1)", x.count(-1), INVALID);
        Check.due("count(16)", x.count(16), INVALID);
        x.fault(4, 0, 0);
        x.plant(4);
        Check.due("on a board without fault: count(7)", x.count(7), 3);
    }

    private static void undoing() {
        Check.promise(28);
        BlessedPins x = new BlessedPins();
        x.net(3);
        x.fault(0, 0, 0);
        x.plant(0);
        Check.due("undo()", x.undo(), 2);
        Check.due("suspects()", x.suspects(), 1024);
        Check.due("undo()", x.undo(), 1);
        Check.due("count(2)", x.count(2), 0);
        Check.due("undo()", x.undo(), 0);
        Check.due("count(0)", x.count(0), 0);
        Check.due("pinOf(0, 0)", x.pinOf(0, 0), BlessedPins.NOT_FOUND);
        Check.due("undo()", x.undo(), NOT_POSSIBLE);
        Check.due("net(5), free again", x.net(5), 0);
        undoingMore();
        undoingPlantings();
    }

    private static void undoingPlantings() {
        BlessedPins x = board();
        x.bless(0, 1);
        x.plant(0);
        x.plant(1);
        Check.due("undo() of plant(1)", x.undo(), 3);
        Check.due("fault 0 is planted again", x.test(), 1);
        Check.due("suspects()", x.suspects(), 1);
        Check.due("undo() of test", x.undo(), 3);
        Check.due("suspects()", x.suspects(), 1024 + 15);
        Check.due("undo() of plant(0)", x.undo(), 2);
        Check.due("nothing is planted", x.test(), 1);
        Check.due("suspects()", x.suspects(), 1024);
        BlessedPins y = board();
        y.net(64 + 128);
        y.bless(6, 1);
        y.bless(7, 1);
        Check.due("undo() of bless(7, 1)", y.undo(), 3);
        Check.due("pinOf(7, 3)", y.pinOf(7, 3), 0);
        Check.due("undo() of bless(6, 1)", y.undo(), 2);
        Check.due("undo() of net", y.undo(), 1);
        Check.due("count(0)", y.count(0), 3);
        y.net(64 + 256);
        y.bless(6, 1);
        y.bless(7, 1);
        y.bless(8, 1);
        Check.due("another net in its place", y.reads(0, NONE, 6, 1), 64 + 256);
    }

    private static void undoingMore() {
        BlessedPins x = new BlessedPins();
        x.pass(1);
        x.pass(1);
        x.vouch(3);
        x.vouchers(9);
        x.test();
        x.pass(5);
        Check.due("at most 4", x.count(9), 4);
        Check.write(x, "low");
        Check.due("undo() of pass", x.undo(), 3);
        Check.due("the text stays", x.count(10), 3);
        Check.due("the voucher is back", x.pinOf(3, 4), 1);
        Check.due("count(8)", x.count(8), 1);
        Check.due("undo() of test", x.undo(), 2);
        Check.due("count(8)", x.count(8), 0);
        Check.due("count(5)", x.count(5), 9);
        Check.due("undo() of vouchers", x.undo(), 1);
        Check.due("count(5)", x.count(5), 2);
        Check.due("undo() of vouch", x.undo(), 0);
        Check.due("count(5)", x.count(5), 3);
        Check.due("pinOf(3, 4)", x.pinOf(3, 4), 0);
        Check.due("the oldest are dropped", x.undo(), NOT_POSSIBLE);
        Check.due("count(3)", x.count(3), 2);
        Check.due("undo is no change", x.count(9), 0);
    }

    private static void errorsChangeNothing() {
        Check.promise(28);
        BlessedPins x = new BlessedPins();
        x.net(1);
        x.chip(0, 0, 0);
        x.fault(2, 0, 0);
        x.bless(0, 128);
        x.plant(0);
        x.vouch(16);
        x.vouchers(21);
        x.pass(0);
        x.file(0, 0);
        Check.write(x, ";");
        x.run();
        Check.due("no change: count(9)", x.count(9), 0);
        x.clearText();
        x.suspects();
        x.bestDay(0);
        Check.due("no change: count(9)", x.count(9), 0);
    }
}
