import java.util.function.Consumer;
import java.util.function.ToIntFunction;

/** Each sentence of "Changes and errors" and promise 28 that names an edge; refused calls of all promises. */
public final class EdgesOfChangesTest {
    private static final int INVALID = BlessedPins.INVALID_ARGUMENT;
    private static final int NOT_POSSIBLE = BlessedPins.NOT_POSSIBLE;
    private static final int LIMIT = BlessedPins.LIMIT_REACHED;
    private static final int NOT_FOUND = BlessedPins.NOT_FOUND;
    private static final int NONE = BlessedPins.NONE;
    private static final String CHANGES = "Changes and errors";
    private static final String NO_CHANGE = "A call that returns an error changes nothing.";

    /** Calls that make an object to begin with; it is made anew for each call that is tried. */
    private interface Start {
        BlessedPins make();
    }

    public static void main(String[] args) {
        changes();
        noChanges();
        statesOfTheHistory();
        undoneChanges();
        textIsNotRecorded();
        undoOfAnEmptyHistory();
        undoToTheOldest();
        refusedOnABoardInUse();
        refusedOnAFullBoard();
        refusedOnAnEmptyBoard();
        refusedPrograms();
        refusedAtTheLastDay();
        refusedByAFullText();
        refusalsWithAFullHistory();
        constants();
        Check.finish("EdgesOfChangesTest");
    }

    /** Two nets, a chip, five faults, a planted one, a spent voucher and a filed fault; two states in the history. */
    private static BlessedPins inUse() {
        BlessedPins x = new BlessedPins();
        x.net(3);
        x.net(12 + 256);
        x.chip(4, 5, 64);
        x.fault(2, 0, 0);
        x.fault(1, 0, 1);
        x.fault(0, 2, 0);
        x.fault(4, 0, 0);
        x.fault(0, 15, 0);
        x.bless(0, 1 + 2);
        x.bless(2, 2);
        x.pass(8);
        x.vouch(3);
        x.file(2, 0);
        x.plant(1);
        x.test();
        Check.write(x, "low 1; ");
        x.pass(1);
        x.pass(1);
        x.undo();
        x.undo();
        return x;
    }

    private static void changes() {
        Check.sentence(CHANGES, "The changes are the calls of net, chip, fault, bless, plant, test, vouch, vouchers,"
                + " pass, file and run that return no error.");
        isChange("net", x -> x.net(1536), 2);
        isChange("chip", x -> x.chip(7, 8, 0), 1);
        isChange("fault", x -> x.fault(3, 0, 0), 5);
        isChange("bless", x -> x.bless(9, 127), 0);
        isChange("bless, with the same days", x -> x.bless(2, 2), 2);
        isChange("plant", x -> x.plant(0), 6);
        isChange("plant none", x -> x.plant(NONE), 6);
        isChange("test", x -> x.test(), 1);
        isChange("vouch", x -> x.vouch(9), 1);
        isChange("vouchers", x -> x.vouchers(20), 2);
        isChange("vouchers, as many as before", x -> x.vouchers(2), 2);
        isChange("pass", x -> x.pass(60), 5);
        isChange("pass of a week", x -> x.pass(7), 1);
        isChange("file", x -> x.file(4, 0), 2);
        isChange("run", x -> x.run(), 1);
        isChange("run of no commands", x -> {
            x.clearText();
            return x.run();
        }, 0);
    }

    private static void isChange(String call, ToIntFunction<BlessedPins> change, int answer) {
        BlessedPins x = inUse();
        Check.due("before " + call + ": count(9)", x.count(9), 2);
        Check.due(call, change.applyAsInt(x), answer);
        Check.due("after " + call + ": count(9)", x.count(9), 3);
        Check.due("undo() of " + call, x.undo(), 2);
        BlessedPins y = inUse();
        if (x.count(10) == 0) {
            y.clearText();
        }
        Check.same(call + ", undone", Snapshot.of(x), Snapshot.of(y));
    }

    private static void noChanges() {
        Check.sentence(CHANGES, "The changes are the calls of net, chip, fault, bless, plant, test, vouch, vouchers,"
                + " pass, file and run (and of no other one)");
        isNoChange("questions about the board", x -> {
            x.pinOf(0, 4);
            x.faultOf(0, 3);
            x.reached(1, 0);
            x.scanned(1, 0);
            x.reads(1, 1, 0, 1);
        });
        isNoChange("questions about the week", x -> {
            x.daysOf(0);
            x.alike(0, 1);
            x.twin(0);
            x.outcomes(1);
            x.likes(1, 0);
            x.fewestDays(1, 1);
            x.wanted(3, 1, 1);
            x.share(1);
        });
        isNoChange("questions about the testing", x -> {
            x.suspects();
            x.bestDay(0);
            x.bestDay(1);
            x.count(7);
        });
        isNoChange("questions about the text", x -> {
            x.place(0);
            x.place(1);
        });
        BlessedPins y = inUse();
        y.type(';');
        Check.due("after type: count(9)", y.count(9), 2);
        y.clearText();
        Check.due("after clearText: count(9)", y.count(9), 2);
        y.undo();
        Check.due("after undo: count(9)", y.count(9), 1);
    }

    private static void isNoChange(String calls, Consumer<BlessedPins> questions) {
        BlessedPins x = inUse();
        questions.accept(x);
        Check.due("after " + calls + ": count(9)", x.count(9), 2);
        Check.same(calls, Snapshot.of(x), Snapshot.of(inUse()));
    }

    private static void statesOfTheHistory() {
        Check.sentence(CHANGES, "A history of at most 4 states is kept");
        BlessedPins x = new BlessedPins();
        Check.due("at first", x.count(9), 0);
        int[] due = {1, 2, 3, 4, 4, 4, 4, 4, 4, 4};
        for (int i = 0; i < due.length; i++) {
            x.pass(1);
            Check.due("after " + (i + 1) + " changes", x.count(9), due[i]);
        }
        Check.sentence(CHANGES, "if there are 5 states then, the oldest one is dropped");
        for (int left = 3; left >= 0; left--) {
            Check.due("undo()", x.undo(), left);
            Check.due("count(3)", x.count(3), 6 + left);
            Check.due("count(9)", x.count(9), left);
        }
        Check.due("the fifth", x.undo(), NOT_POSSIBLE);
        Check.due("count(3)", x.count(3), 6);
    }

    private static void undoneChanges() {
        Check.sentence(28, "Restores the latest state of the history, which is removed from it.");
        BlessedPins x = new BlessedPins();
        x.pass(1);
        x.pass(2);
        x.undo();
        Check.due("the latest: count(3)", x.count(3), 1);
        x.pass(5);
        Check.due("another change: count(9)", x.count(9), 2);
        Check.due("count(3)", x.count(3), 6);
        x.undo();
        Check.due("that one is undone: count(3)", x.count(3), 1);
        x.undo();
        Check.due("and the first: count(3)", x.count(3), 0);
        Check.due("no undo of undo: undo()", x.undo(), NOT_POSSIBLE);
        BlessedPins y = new BlessedPins();
        y.net(3);
        y.undo();
        Check.due("the number of a net is free again", y.net(12), 0);
        y.chip(0, 1, 4);
        y.undo();
        Check.due("the pins of a chip are free again", y.chip(1, 2, 0), 0);
        y.fault(2, 0, 0);
        y.undo();
        Check.due("the fault is not there", y.faultOf(0, 0), INVALID);
        Check.due("another fault in its place", y.fault(3, 0, 0), 0);
        Check.due("faultOf(0, 0)", y.faultOf(0, 0), 3);
        y.file(0, 3);
        y.undo();
        Check.due("the drawer is empty again: count(14)", y.count(14), 0);
        Check.due("file(0, 3)", y.file(0, 3), 1);
        y.undo();
        y.undo();
        y.fault(0, 0, 0);
        Check.due("a new fault of the same number is in no drawer", y.faultOf(0, 3), NOT_FOUND);
    }

    private static void textIsNotRecorded() {
        Check.sentence(CHANGES, "each change records everything before it but the text");
        BlessedPins x = new BlessedPins();
        x.type('a');
        x.pass(1);
        x.type('b');
        x.undo();
        Check.due("what was typed later stays: count(10)", x.count(10), 2);
        x.pass(1);
        x.clearText();
        x.undo();
        Check.due("what was emptied later stays empty: count(10)", x.count(10), 0);
        Check.due("place(0)", x.place(0), NOT_FOUND);
    }

    private static void undoOfAnEmptyHistory() {
        Check.sentence(28, "NOT_POSSIBLE if it is empty");
        BlessedPins x = new BlessedPins();
        Check.due("a new object", x.undo(), NOT_POSSIBLE);
        x.type(32);
        x.count(0);
        x.net(1);
        Check.due("after calls that are no changes", x.undo(), NOT_POSSIBLE);
        x.pass(1);
        Check.sentence(28, "Returns the number of states that are left in the history");
        Check.due("one, none is left", x.undo(), 0);
        Check.due("count(10)", x.count(10), 1);
        Check.sentence(28, "NOT_POSSIBLE if it is empty");
        Check.due("empty again", x.undo(), NOT_POSSIBLE);
        Check.due("and again", x.undo(), NOT_POSSIBLE);
    }

    private static void undoToTheOldest() {
        Check.sentence(CHANGES, "each change records everything before it");
        BlessedPins x = new BlessedPins();
        x.net(3);
        x.chip(4, 5, 64);
        x.fault(2, 0, 0);
        x.fault(4, 0, 0);
        x.bless(0, 1);
        x.plant(0);
        Check.due("the states before plant, bless and two faults", x.count(9), 4);
        x.undo();
        Check.due("before plant: suspects()", x.suspects(), 1024);
        Check.due("before plant: pinOf(0, 3)", x.pinOf(0, 3), 1);
        x.undo();
        Check.due("before bless: pinOf(0, 3)", x.pinOf(0, 3), 0);
        Check.due("before bless: count(2)", x.count(2), 2);
        x.undo();
        Check.due("before the second fault: count(2)", x.count(2), 1);
        Check.due("undo() to the oldest", x.undo(), 0);
        Check.due("before the first fault: count(2)", x.count(2), 0);
        Check.due("the chip stays: count(1)", x.count(1), 1);
        Check.due("the net stays: count(0)", x.count(0), 1);
        Check.due("undo()", x.undo(), NOT_POSSIBLE);
    }

    private static void refused(Start start, String call, ToIntFunction<BlessedPins> tried, int error) {
        BlessedPins x = start.make();
        Check.due(call, tried.applyAsInt(x), error);
        Check.same(call, Snapshot.of(x), Snapshot.of(start.make()));
    }

    private static void refusedOnABoardInUse() {
        Check.sentence(CHANGES, NO_CHANGE);
        Start start = EdgesOfChangesTest::inUse;
        refused(start, "net(1)", x -> x.net(1), INVALID);
        refused(start, "net(63)", x -> x.net(63), INVALID);
        refused(start, "net(65536 + 1536)", x -> x.net(65536 + 1536), INVALID);
        refused(start, "net(1 + 512)", x -> x.net(1 + 512), NOT_POSSIBLE);
        refused(start, "chip(16, 0, 0)", x -> x.chip(16, 0, 0), INVALID);
        refused(start, "chip(0, -1, 0)", x -> x.chip(0, -1, 0), INVALID);
        refused(start, "chip(0, 1, 1)", x -> x.chip(0, 1, 1), INVALID);
        refused(start, "chip(0, 4, 0)", x -> x.chip(0, 4, 0), NOT_POSSIBLE);
        refused(start, "fault(5, 0, 0)", x -> x.fault(5, 0, 0), INVALID);
        refused(start, "fault(2, 2, 0)", x -> x.fault(2, 2, 0), INVALID);
        refused(start, "fault(1, 1, 0)", x -> x.fault(1, 1, 0), INVALID);
        refused(start, "fault(1, 0, 1)", x -> x.fault(1, 0, 1), NOT_POSSIBLE);
        refused(start, "bless(16, 1)", x -> x.bless(16, 1), INVALID);
        refused(start, "bless(0, 128)", x -> x.bless(0, 128), INVALID);
        refused(start, "pinOf(0, 5)", x -> x.pinOf(0, 5), INVALID);
        refused(start, "pinOf(7, 2)", x -> x.pinOf(7, 2), NOT_FOUND);
        refused(start, "faultOf(5, 0)", x -> x.faultOf(5, 0), INVALID);
        refused(start, "faultOf(0, 2)", x -> x.faultOf(0, 2), NOT_FOUND);
        refused(start, "reached(7, 0)", x -> x.reached(7, 0), INVALID);
        refused(start, "reads(0, 0, 7, 0)", x -> x.reads(0, 0, 7, 0), NOT_FOUND);
        refused(start, "twin(0)", x -> x.twin(0), NOT_FOUND);
        refused(start, "wanted(4, 0, 0)", x -> x.wanted(4, 0, 0), NOT_FOUND);
        refused(start, "plant(5)", x -> x.plant(5), INVALID);
        refused(start, "plant(-2)", x -> x.plant(-2), INVALID);
        refused(start, "vouch(16)", x -> x.vouch(16), INVALID);
        refused(start, "vouch(0)", x -> x.vouch(0), NOT_POSSIBLE);
        refused(start, "vouch(3)", x -> x.vouch(3), NOT_POSSIBLE);
        refused(start, "vouchers(21)", x -> x.vouchers(21), INVALID);
        refused(start, "pass(0)", x -> x.pass(0), INVALID);
        refused(start, "pass(61)", x -> x.pass(61), INVALID);
        refused(start, "bestDay(2)", x -> x.bestDay(2), INVALID);
        refused(start, "file(0, 5)", x -> x.file(0, 5), INVALID);
        refused(start, "file(2, 0)", x -> x.file(2, 0), NOT_POSSIBLE);
        refused(start, "file(0, 3)", x -> x.file(0, 3), NOT_POSSIBLE);
        refused(start, "count(16)", x -> x.count(16), INVALID);
        refused(start, "type(31)", x -> x.type(31), INVALID);
        refused(start, "type(127)", x -> x.type(127), INVALID);
        refused(start, "place(2)", x -> x.place(2), INVALID);
        refused(start, "place(0)", x -> x.place(0), NOT_FOUND);
    }

    /** Eight nets, five chips, ten faults, two full drawers, no voucher, and a full history. */
    private static BlessedPins full() {
        BlessedPins x = new BlessedPins();
        for (int net = 0; net < 8; net++) {
            x.net(3 << 2 * net);
        }
        for (int chip = 0; chip < 5; chip++) {
            x.chip(2 * chip, 2 * chip + 1, 0);
            x.fault(2, chip, 0);
            x.fault(3, chip, 0);
        }
        for (int fault = 0; fault < 6; fault++) {
            x.file(fault, 2 + fault % 2);
        }
        x.bless(0, 1);
        x.vouch(1);
        x.plant(3);
        x.test();
        x.vouchers(0);
        return x;
    }

    private static void refusedOnAFullBoard() {
        Check.sentence(CHANGES, "If several errors apply to a call, INVALID_ARGUMENT is returned rather than NOT_POSSIBLE,"
                + " NOT_POSSIBLE rather than LIMIT_REACHED; " + NO_CHANGE);
        Start start = EdgesOfChangesTest::full;
        refused(start, "net(1)", x -> x.net(1), INVALID);
        refused(start, "net(3)", x -> x.net(3), NOT_POSSIBLE);
        refused(start, "chip(0, 0, 0)", x -> x.chip(0, 0, 0), INVALID);
        refused(start, "chip(0, 16, 0)", x -> x.chip(0, 16, 0), INVALID);
        refused(start, "chip(0, 15, 0)", x -> x.chip(0, 15, 0), NOT_POSSIBLE);
        refused(start, "chip(14, 15, 0)", x -> x.chip(14, 15, 0), LIMIT);
        refused(start, "fault(2, 0, 1)", x -> x.fault(2, 0, 1), INVALID);
        refused(start, "fault(2, 0, 0)", x -> x.fault(2, 0, 0), NOT_POSSIBLE);
        refused(start, "fault(2, 5, 0)", x -> x.fault(2, 5, 0), LIMIT);
        refused(start, "fault(2, 8, 0)", x -> x.fault(2, 8, 0), INVALID);
        refused(start, "vouch(-1)", x -> x.vouch(-1), INVALID);
        refused(start, "vouch(0)", x -> x.vouch(0), NOT_POSSIBLE);
        refused(start, "vouch(1)", x -> x.vouch(1), NOT_POSSIBLE);
        refused(start, "vouch(2)", x -> x.vouch(2), LIMIT);
        refused(start, "file(0, 5)", x -> x.file(0, 5), INVALID);
        refused(start, "file(10, 2)", x -> x.file(10, 2), INVALID);
        refused(start, "file(0, 2)", x -> x.file(0, 2), NOT_POSSIBLE);
        refused(start, "file(6, 3)", x -> x.file(6, 3), NOT_POSSIBLE);
        refused(start, "file(6, 2)", x -> x.file(6, 2), LIMIT);
        refused(start, "plant(10)", x -> x.plant(10), INVALID);
        refused(start, "vouchers(-1)", x -> x.vouchers(-1), INVALID);
        refused(start, "pass(0)", x -> x.pass(0), INVALID);
        refused(start, "bless(0, -1)", x -> x.bless(0, -1), INVALID);
    }

    private static void refusedOnAnEmptyBoard() {
        Check.sentence(CHANGES, "If there is no net, chip or fault with a certain number, this is INVALID_ARGUMENT.");
        Start start = BlessedPins::new;
        refused(start, "fault(1, 0, 1)", x -> x.fault(1, 0, 1), INVALID);
        refused(start, "fault(2, 0, 0)", x -> x.fault(2, 0, 0), INVALID);
        refused(start, "fault(3, 0, 0)", x -> x.fault(3, 0, 0), INVALID);
        refused(start, "fault(4, 0, 0)", x -> x.fault(4, 0, 0), INVALID);
        refused(start, "faultOf(0, 0)", x -> x.faultOf(0, 0), INVALID);
        refused(start, "reached(0, 0)", x -> x.reached(0, 0), INVALID);
        refused(start, "scanned(0, 0)", x -> x.scanned(0, 0), INVALID);
        refused(start, "reads(0, 0, 0, 0)", x -> x.reads(0, 0, 0, 0), INVALID);
        refused(start, "reads(0, NONE, 0, 0)", x -> x.reads(0, NONE, 0, 0), NOT_FOUND);
        refused(start, "daysOf(0)", x -> x.daysOf(0), INVALID);
        refused(start, "alike(0, NONE)", x -> x.alike(0, NONE), INVALID);
        refused(start, "alike(NONE, 0)", x -> x.alike(NONE, 0), INVALID);
        refused(start, "twin(0)", x -> x.twin(0), INVALID);
        refused(start, "likes(0, 0)", x -> x.likes(0, 0), INVALID);
        refused(start, "wanted(0, 0, 0)", x -> x.wanted(0, 0, 0), INVALID);
        refused(start, "plant(0)", x -> x.plant(0), INVALID);
        refused(start, "file(0, 0)", x -> x.file(0, 0), INVALID);
        refused(start, "undo()", x -> x.undo(), NOT_POSSIBLE);
        refused(start, "place(0)", x -> x.place(0), NOT_FOUND);
    }

    private static void refusedPrograms() {
        Check.sentence(CHANGES, NO_CHANGE);
        String[] texts = {"x", ";", "net 9 10", "net 9 10;chip 11 12;bless 9 0;open 7;low 2;high 0;net 9 11;",
            "bless 0;bless 2 6;low 9;", "high 0;high 1;dead 0;"};
        for (String text : texts) {
            Start start = () -> {
                BlessedPins x = inUse();
                Check.rewrite(x, text);
                return x;
            };
            refused(start, "run() of '" + text + "'", x -> x.run(), NOT_POSSIBLE);
            refused(start, "place(2) of '" + text + "'", x -> x.place(2), INVALID);
        }
    }

    private static void refusedAtTheLastDay() {
        Check.sentence(CHANGES, NO_CHANGE);
        Start start = () -> {
            BlessedPins x = new BlessedPins();
            for (int i = 0; i < 166; i++) {
                x.pass(60);
            }
            x.pass(39);
            x.vouch(9);
            return x;
        };
        refused(start, "pass(2) on day 9999", x -> x.pass(2), LIMIT);
        refused(start, "pass(60) on day 9999", x -> x.pass(60), LIMIT);
        refused(start, "pass(61) on day 9999", x -> x.pass(61), INVALID);
    }

    private static void refusedByAFullText() {
        Check.sentence(CHANGES, NO_CHANGE);
        Start start = () -> {
            BlessedPins x = new BlessedPins();
            Check.write(x, "net 0 1;low 0;" + " ".repeat(86));
            return x;
        };
        refused(start, "type(';') with 100 characters", x -> x.type(';'), LIMIT);
        refused(start, "type(31) with 100 characters", x -> x.type(31), INVALID);
        BlessedPins x = start.make();
        x.type(';');
        Check.due("the text is as before: run()", x.run(), 2);
    }

    private static void refusalsWithAFullHistory() {
        Check.sentence(CHANGES, "A call that returns an error changes nothing (it drops no state, either).");
        BlessedPins x = new BlessedPins();
        for (int day = 0; day < 4; day++) {
            x.pass(1);
        }
        for (int i = 0; i < 5; i++) {
            x.net(1);
            x.chip(0, 0, 0);
            x.fault(4, 0, 0);
            x.bless(0, 128);
            x.plant(0);
            x.vouch(16);
            x.vouchers(21);
            x.pass(61);
            x.file(0, 0);
            Check.rewrite(x, ";");
            x.run();
        }
        Check.due("count(9)", x.count(9), 4);
        for (int left = 3; left >= 0; left--) {
            Check.due("undo()", x.undo(), left);
        }
        Check.due("the oldest is kept: count(3)", x.count(3), 0);
    }

    private static void constants() {
        Check.sentence(CHANGES, "The constants");
        Check.due("INVALID_ARGUMENT", BlessedPins.INVALID_ARGUMENT, -1000001);
        Check.due("NOT_POSSIBLE", BlessedPins.NOT_POSSIBLE, -1000002);
        Check.due("LIMIT_REACHED", BlessedPins.LIMIT_REACHED, -1000003);
        Check.due("NOT_FOUND", BlessedPins.NOT_FOUND, -1000004);
        Check.due("NONE", BlessedPins.NONE, -1);
    }
}
