/** Each sentence of "Testing", "Drawers" and the promises 19 to 27 that names an edge. */
public final class EdgesOfTestingTest {
    private static final int INVALID = BlessedPins.INVALID_ARGUMENT;
    private static final int NOT_POSSIBLE = BlessedPins.NOT_POSSIBLE;
    private static final int LIMIT = BlessedPins.LIMIT_REACHED;
    private static final int NOT_FOUND = BlessedPins.NOT_FOUND;
    private static final int NONE = BlessedPins.NONE;
    private static final String TESTING = "Testing";
    private static final String DRAWERS = "Drawers";
    private static final int[] FAR = {Integer.MIN_VALUE, Integer.MIN_VALUE + 1, -60, -2, 61, 10001, 1 << 20, Integer.MAX_VALUE};

    public static void main(String[] args) {
        plantArguments();
        plantAnswers();
        suspectsOfAPlanting();
        testsThatLeave();
        testsOfTheBoardOfNow();
        testsOnThePresentDay();
        vouchersAtFirst();
        vouchArguments();
        vouchRefusals();
        voucherNumbers();
        passArguments();
        passAroundTheWeek();
        passToTheLastDay();
        suspectSets();
        bestDayArguments();
        bestDayOfSeveral();
        bestDayAtTheWorst();
        fileArguments();
        filePlaces();
        fileRefusals();
        countArguments();
        countsOfParts();
        countsOfPins();
        countsOfStatesAndText();
        Check.finish("EdgesOfTestingTest");
    }

    /** Five nets of two pins, from pin 0 on; the faults 0 to 9 are low and high of each. */
    private static BlessedPins tenFaults() {
        BlessedPins x = new BlessedPins();
        for (int net = 0; net < 5; net++) {
            x.net(3 << 2 * net);
            x.fault(2, net, 0);
            x.fault(3, net, 0);
        }
        return x;
    }

    private static void plantArguments() {
        Check.sentence(19, "fault: number of the fault, or NONE; INVALID_ARGUMENT if there is no such fault");
        BlessedPins x = new BlessedPins();
        Check.due("plant(0) without faults", x.plant(0), INVALID);
        Check.due("plant(NONE) without faults", x.plant(NONE), 1);
        x.fault(0, 0, 0);
        Check.due("plant(-2)", x.plant(-2), INVALID);
        Check.due("plant(1), the next", x.plant(1), INVALID);
        Check.due("plant(10), the bit of none of them", x.plant(10), INVALID);
        for (int number : FAR) {
            Check.due("plant(" + number + ")", x.plant(number), INVALID);
        }
        Check.due("suspects()", x.suspects(), 1024);
        Check.due("plant(0)", x.plant(0), 2);
        Check.due("plant(9), the tenth", tenFaults().plant(9), 11);
        Check.due("plant(10), an eleventh", tenFaults().plant(10), INVALID);
    }

    private static void plantAnswers() {
        Check.sentence(19, "Returns how many suspects there are then");
        for (int faults = 0; faults <= 10; faults++) {
            BlessedPins x = new BlessedPins();
            for (int pin = 0; pin < faults; pin++) {
                x.fault(0, pin, 0);
            }
            Check.due(faults + " faults", x.plant(NONE), faults + 1);
            Check.due(faults + " faults, again", x.plant(faults - 1), faults + 1);
        }
        BlessedPins y = tenFaults();
        y.bless(0, 1);
        y.plant(0);
        y.test();
        Check.due("all again after a test", y.plant(0), 11);
    }

    private static void suspectsOfAPlanting() {
        Check.sentence(TESTING, "By a planting all that there are become suspects"
                + " (of faults that are added later the next planting knows).");
        BlessedPins x = new BlessedPins();
        x.net(3);
        x.fault(2, 0, 0);
        Check.due("before a planting", x.suspects(), 1024);
        x.plant(NONE);
        Check.due("one fault", x.suspects(), 1025);
        x.fault(0, 15, 0);
        Check.due("a fault that was added later", x.suspects(), 1025);
        Check.due("though it looks like no fault: test()", x.test(), 2);
        Check.due("suspects()", x.suspects(), 1025);
        x.plant(0);
        Check.due("the next planting", x.suspects(), 1027);
        Check.sentence(TESTING, "A fault is planted, or none; it is not known.");
        x.bless(0, 1);
        Check.due("fault 0 is planted: test()", x.test(), 1);
        Check.due("suspects()", x.suspects(), 1);
        x.plant(NONE);
        Check.due("none is planted: test()", x.test(), 2);
        Check.due("suspects()", x.suspects(), 1024 + 2);
    }

    private static void testsThatLeave() {
        Check.sentence(20, "Returns how many suspects are left.");
        BlessedPins x = tenFaults();
        x.plant(9);
        Check.due("nothing is touched: all", x.test(), 11);
        x.bless(0, 2);
        x.bless(8, 4);
        x.pass(1);
        Check.due("net 0: all but its two", x.test(), 9);
        Check.due("suspects()", x.suspects(), 2047 - 3);
        x.pass(1);
        Check.due("net 4: one", x.test(), 1);
        Check.due("suspects()", x.suspects(), 512);
        x.pass(1);
        Check.due("nothing is touched: no one comes back", x.test(), 1);
        Check.due("suspects()", x.suspects(), 512);
        Check.sentence(20, "Tests the planted board");
        BlessedPins y = new BlessedPins();
        Check.due("without faults", y.test(), 1);
        Check.due("count(8)", y.count(8), 1);
        BlessedPins z = tenFaults();
        for (int net = 0; net < 5; net++) {
            z.bless(2 * net, 1);
        }
        for (int fault = -1; fault < 10; fault++) {
            z.plant(fault);
            Check.due("all are unlike: test() of " + fault, z.test(), 1);
            Check.due("suspects()", z.suspects(), fault < 0 ? 1024 : 1 << fault);
        }
    }

    private static void testsOfTheBoardOfNow() {
        Check.sentence(20, "nets, chips and blessings are those that there are now");
        BlessedPins x = new BlessedPins();
        x.chip(0, 1, 16);
        x.fault(4, 0, 0);
        x.fault(0, 1, 0);
        x.plant(0);
        Check.due("no blessings", x.test(), 3);
        x.bless(0, 1);
        x.bless(3, 1);
        Check.due("the exit is not touched", x.test(), 3);
        x.chip(2, 3, 32);
        x.net(2 + 4);
        Check.due("a chip behind it, and a net to it", x.test(), 2);
        Check.due("suspects()", x.suspects(), 3);
        x.bless(1, 1);
        Check.due("the exit is touched", x.test(), 1);
        Check.due("suspects()", x.suspects(), 1);
        x.bless(0, 0);
        x.bless(1, 0);
        x.bless(3, 0);
        Check.due("nothing is touched", x.test(), 1);
    }

    private static void testsOnThePresentDay() {
        Check.sentence(20, "on the present day, with vouchers that were spent on it");
        BlessedPins x = tenFaults();
        x.bless(0, 64);
        x.plant(0);
        Check.due("day 0", x.test(), 11);
        x.pass(6);
        Check.due("day 6", x.test(), 1);
        x.plant(2);
        Check.due("day 6, of another net", x.test(), 9);
        x.vouch(3);
        Check.due("with a voucher", x.test(), 1);
        x.plant(2);
        x.pass(7);
        Check.due("a week later", x.test(), 9);
    }

    private static void vouchersAtFirst() {
        Check.sentence(TESTING, "There are vouchers, 3 at first.");
        BlessedPins x = new BlessedPins();
        Check.due("count(5)", x.count(5), 3);
        Check.due("the first", x.vouch(0), 2);
        Check.due("the second", x.vouch(1), 1);
        Check.due("the third", x.vouch(2), 0);
        Check.due("a fourth", x.vouch(3), LIMIT);
        Check.sentence(TESTING, "By a voucher a pin that cannot be touched can be touched on the present day.");
        Check.due("count(6)", x.count(6), 3);
        Check.due("not the fourth: pinOf(3, 4)", x.pinOf(3, 4), 0);
        x.pass(1);
        Check.due("on the next day: count(6)", x.count(6), 0);
        Check.due("they do not come back: count(5)", x.count(5), 0);
        x.pass(6);
        Check.due("a week later: count(6)", x.count(6), 0);
    }

    private static void vouchArguments() {
        Check.sentence(21, "pin: 0 to 15; INVALID_ARGUMENT if pin is out of range");
        BlessedPins x = new BlessedPins();
        Check.due("vouch(-1)", x.vouch(-1), INVALID);
        Check.due("vouch(16)", x.vouch(16), INVALID);
        Check.due("vouch(32)", x.vouch(32), INVALID);
        for (int number : FAR) {
            Check.due("vouch(" + number + ")", x.vouch(number), INVALID);
        }
        Check.due("count(5)", x.count(5), 3);
        Check.sentence(21, "Returns how many vouchers are left");
        Check.due("vouch(0)", x.vouch(0), 2);
        Check.due("vouch(15)", x.vouch(15), 1);
        x.vouchers(20);
        Check.due("vouch(1) of 20", x.vouch(1), 19);
    }

    private static void vouchRefusals() {
        Check.sentence(21, "NOT_POSSIBLE if it can be touched already");
        BlessedPins x = new BlessedPins();
        x.bless(0, 1);
        x.bless(1, 2);
        x.chip(2, 3, 16);
        x.bless(2, 1);
        x.bless(3, 1);
        Check.due("blessed today", x.vouch(0), NOT_POSSIBLE);
        Check.due("blessed tomorrow", x.vouch(1), 2);
        Check.due("with a voucher of today", x.vouch(1), NOT_POSSIBLE);
        Check.due("reached, but not touched", x.vouch(4), 1);
        x.pass(1);
        Check.due("blessed today", x.vouch(1), NOT_POSSIBLE);
        Check.due("with a voucher of yesterday", x.vouch(4), 0);
        Check.sentence(21, "LIMIT_REACHED if there is no voucher");
        Check.due("none is left", x.vouch(15), LIMIT);
        Check.due("none is left, and it can be touched", x.vouch(4), NOT_POSSIBLE);
        Check.due("none is left, and it is blessed", x.vouch(1), NOT_POSSIBLE);
        Check.due("none is left, and it is no pin", x.vouch(16), INVALID);
        Check.due("count(5)", x.count(5), 0);
        x.vouchers(1);
        Check.due("one again", x.vouch(15), 0);
        BlessedPins y = new BlessedPins();
        y.vouchers(16);
        for (int pin = 0; pin < 16; pin++) {
            Check.due("all pins", y.vouch(pin), 15 - pin);
        }
        Check.due("count(6)", y.count(6), 16);
    }

    private static void voucherNumbers() {
        Check.sentence(22, "many: 0 to 20; INVALID_ARGUMENT if many is out of range");
        BlessedPins x = new BlessedPins();
        Check.due("vouchers(-1)", x.vouchers(-1), INVALID);
        Check.due("vouchers(21)", x.vouchers(21), INVALID);
        for (int number : FAR) {
            Check.due("vouchers(" + number + ")", x.vouchers(number), INVALID);
        }
        Check.sentence(22, "Sets how many vouchers there are. Returns how many there were");
        Check.due("vouchers(20)", x.vouchers(20), 3);
        Check.due("vouchers(0)", x.vouchers(0), 20);
        Check.due("vouchers(0) again", x.vouchers(0), 0);
        Check.due("vouch(0)", x.vouch(0), LIMIT);
        Check.due("vouchers(1)", x.vouchers(1), 0);
        Check.due("vouch(0)", x.vouch(0), 0);
        Check.due("one was spent: vouchers(5)", x.vouchers(5), 0);
        Check.due("what was spent stays: pinOf(0, 4)", x.pinOf(0, 4), 1);
        Check.due("count(5)", x.count(5), 5);
    }

    private static void passArguments() {
        Check.sentence(23, "days: 1 to 60; INVALID_ARGUMENT if days is out of range");
        BlessedPins x = new BlessedPins();
        Check.due("pass(0)", x.pass(0), INVALID);
        Check.due("pass(-1)", x.pass(-1), INVALID);
        Check.due("pass(61)", x.pass(61), INVALID);
        for (int number : FAR) {
            Check.due("pass(" + number + ")", x.pass(number), INVALID);
        }
        Check.due("count(3)", x.count(3), 0);
        Check.due("pass(1)", x.pass(1), 1);
        Check.due("pass(60)", x.pass(60), 61 % 7);
        Check.due("count(3)", x.count(3), 61);
    }

    private static void passAroundTheWeek() {
        Check.sentence(23, "Returns the day of the week then");
        int[] due = {0, 1, 2, 3, 4, 5, 6, 0, 1};
        for (int days = 1; days <= 8; days++) {
            BlessedPins x = new BlessedPins();
            Check.due("pass(" + days + ")", x.pass(days), due[days]);
            Check.due("count(3)", x.count(3), days);
            Check.due("count(4)", x.count(4), due[days]);
        }
        BlessedPins y = new BlessedPins();
        for (int day = 1; day <= 15; day++) {
            Check.due("day by day: " + day, y.pass(1), day % 7);
        }
    }

    /** On this day, from 9940 to 10000. */
    private static BlessedPins onDay(int day) {
        BlessedPins x = new BlessedPins();
        for (int i = 0; i < 165; i++) {
            x.pass(60);
        }
        x.pass(day - 9900 > 60 ? 60 : day - 9900);
        if (day > 9960) {
            x.pass(day - 9960);
        }
        return x;
    }

    private static void passToTheLastDay() {
        Check.sentence(23, "LIMIT_REACHED if the day would be greater than 10000");
        Check.due("from 9940 to 10000", onDay(9940).pass(60), 4);
        Check.due("from 9941 to 10001", onDay(9941).pass(60), LIMIT);
        BlessedPins x = onDay(9999);
        Check.due("count(3)", x.count(3), 9999);
        Check.due("by 2", x.pass(2), LIMIT);
        Check.due("by 61", x.pass(61), INVALID);
        Check.due("by 1", x.pass(1), 4);
        Check.due("count(3)", x.count(3), 10000);
        Check.due("count(4)", x.count(4), 4);
        Check.due("by 1 more", x.pass(1), LIMIT);
        Check.due("by 60 more", x.pass(60), LIMIT);
        Check.due("by 0 more", x.pass(0), INVALID);
        x.bless(0, 16);
        Check.due("pinOf(0, 4) on the last day", x.pinOf(0, 4), 1);
        x.undo();
        Check.due("undo() of the last day", x.undo(), 2);
        Check.due("count(3)", x.count(3), 9999);
        Check.due("by 1 again", x.pass(1), 4);
    }

    private static void suspectSets() {
        Check.sentence(24, "Returns the set of faults, with bit 10 for none of them.");
        BlessedPins x = tenFaults();
        Check.due("none of them alone", x.suspects(), 1024);
        x.plant(9);
        Check.due("all", x.suspects(), 2047);
        x.bless(8, 1);
        x.test();
        Check.due("the tenth alone, without bit 10", x.suspects(), 512);
        x.plant(0);
        x.test();
        Check.due("all but the last net's", x.suspects(), 1024 + 255);
    }

    private static void bestDayArguments() {
        Check.sentence(25, "which: 0: the day of the week; 1: how many suspects at the worst;"
                + " INVALID_ARGUMENT if which is out of range");
        BlessedPins x = new BlessedPins();
        Check.due("bestDay(-1)", x.bestDay(-1), INVALID);
        Check.due("bestDay(2)", x.bestDay(2), INVALID);
        for (int number : FAR) {
            Check.due("bestDay(" + number + ")", x.bestDay(number), INVALID);
        }
        Check.due("one suspect alone: bestDay(0)", x.bestDay(0), 0);
        Check.due("one suspect alone: bestDay(1)", x.bestDay(1), 1);
        BlessedPins y = tenFaults();
        y.plant(NONE);
        Check.due("all eleven", y.bestDay(1), 11);
        for (int net = 0; net < 5; net++) {
            y.bless(2 * net, 64);
        }
        Check.due("each of eleven alone: bestDay(1)", y.bestDay(1), 1);
        Check.due("each of eleven alone: bestDay(0)", y.bestDay(0), 6);
        y.pass(6);
        for (int fault = -1; fault < 10; fault++) {
            y.plant(fault);
            y.test();
            Check.due("fault " + fault + " alone is left", y.bestDay(1), 1);
        }
    }

    private static void bestDayOfSeveral() {
        Check.sentence(25, "of several the first from the present day on");
        BlessedPins x = tenFaults();
        x.plant(0);
        for (int day = 0; day < 7; day++) {
            Check.due("all days are the same: day " + day, x.bestDay(0), day);
            x.pass(1);
        }
        x.bless(0, 2 + 16);
        int[] due = {1, 1, 4, 4, 4, 1, 1};
        for (int day = 0; day < 7; day++) {
            Check.due("the days 1 and 4: day " + day, x.bestDay(0), due[day]);
            x.pass(1);
        }
        x.bless(0, 1);
        x.pass(6);
        Check.due("around the week: from day 6 to day 0", x.bestDay(0), 0);
        x.bless(0, 32);
        Check.due("around the week: from day 6 to day 5", x.bestDay(0), 5);
    }

    private static void bestDayAtTheWorst() {
        Check.sentence(25, "a test without vouchers would leave the fewest suspects at the worst, whatever of them is planted");
        BlessedPins x = tenFaults();
        x.plant(0);
        x.bless(0, 2);
        x.bless(2, 4);
        x.bless(4, 4);
        Check.due("two nets leave seven", x.bestDay(1), 7);
        Check.due("on day 2", x.bestDay(0), 2);
        x.vouch(6);
        x.vouch(8);
        x.vouch(0);
        Check.due("vouchers of today do not count: bestDay(1)", x.bestDay(1), 7);
        Check.due("vouchers of today do not count: bestDay(0)", x.bestDay(0), 2);
        x.plant(NONE);
        x.test();
        Check.due("the faults of the nets 1 and 2 and none are left", x.suspects(), 1024 + 4 + 8 + 16 + 32);
        Check.due("they are told on day 2: bestDay(1)", x.bestDay(1), 1);
        BlessedPins y = new BlessedPins();
        y.net(3);
        y.fault(2, 0, 0);
        y.fault(0, 8, 0);
        y.fault(0, 9, 0);
        y.bless(0, 8);
        y.plant(0);
        Check.due("at the worst fault 0 is not planted", y.bestDay(1), 3);
        y.fault(3, 0, 0);
        Check.due("a fault that is no suspect does not count", y.bestDay(1), 3);
    }

    private static void fileArguments() {
        Check.sentence(26, "fault: number of the fault; drawer: 0 to 4; INVALID_ARGUMENT if an argument is out of range");
        BlessedPins x = new BlessedPins();
        Check.due("no fault at all", x.file(0, 0), INVALID);
        x.fault(0, 0, 0);
        Check.due("file(NONE, 0)", x.file(NONE, 0), INVALID);
        Check.due("file(1, 0), the next", x.file(1, 0), INVALID);
        Check.due("file(10, 0)", x.file(10, 0), INVALID);
        Check.due("file(0, -1)", x.file(0, -1), INVALID);
        Check.due("file(0, 5)", x.file(0, 5), INVALID);
        for (int number : FAR) {
            Check.due("file(" + number + ", 0)", x.file(number, 0), INVALID);
            Check.due("file(0, " + number + ")", x.file(0, number), INVALID);
        }
        Check.due("count(11)", x.count(11), 0);
        Check.due("file(0, 0)", x.file(0, 0), 1);
        Check.due("filed, and a drawer out of range", x.file(0, 5), INVALID);
        Check.due("the tenth", tenFaults().file(9, 3), 1);
        Check.due("an eleventh", tenFaults().file(10, 3), INVALID);
    }

    /** Five nets, four chips, and so many faults of one kind. */
    private static BlessedPins faultsOf(int kind, int many) {
        BlessedPins x = new BlessedPins();
        for (int i = 0; i < 4; i++) {
            x.net(3 << 2 * i);
            x.chip(8 + 2 * i, 9 + 2 * i, 0);
        }
        x.net(256 + 1024);
        for (int i = 0; i < many; i++) {
            x.fault(kind, kind == 1 ? 0 : i, kind == 1 ? i + 1 : 0);
        }
        return x;
    }

    private static void filePlaces() {
        Check.sentence(DRAWERS, "There are five drawers, 0 to 4, with 3 places each");
        for (int kind = 0; kind < 5; kind++) {
            BlessedPins x = faultsOf(kind, 4);
            for (int fault = 0; fault < 3; fault++) {
                Check.due("drawer " + kind + ", fault " + fault, x.file(fault, kind), fault + 1);
                Check.due("count(" + (11 + kind) + ")", x.count(11 + kind), fault + 1);
            }
            Check.sentence(26, "LIMIT_REACHED if the drawer is full");
            Check.due("drawer " + kind + ", a fourth", x.file(3, kind), LIMIT);
            Check.due("count(" + (11 + kind) + ")", x.count(11 + kind), 3);
            Check.due("faultOf(3, 3)", x.faultOf(3, 3), NOT_FOUND);
            Check.sentence(DRAWERS, "There are five drawers, 0 to 4, with 3 places each");
        }
        BlessedPins y = faultsOf(4, 4);
        y.fault(3, 0, 0);
        Check.sentence(26, "Returns how many faults are in the drawer then");
        Check.due("the last one first", y.file(3, 4), 1);
        Check.due("another drawer", y.file(4, 3), 1);
        Check.due("the first one", y.file(0, 4), 2);
    }

    private static void fileRefusals() {
        Check.sentence(DRAWERS, "drawer k takes faults of the kind k alone");
        for (int kind = 0; kind < 5; kind++) {
            for (int drawer = 0; drawer < 5; drawer++) {
                BlessedPins x = faultsOf(kind, 1);
                Check.due("kind " + kind + " into drawer " + drawer, x.file(0, drawer), kind == drawer ? 1 : NOT_POSSIBLE);
                Check.due("faultOf(0, 3)", x.faultOf(0, 3), kind == drawer ? kind : NOT_FOUND);
            }
        }
        Check.sentence(DRAWERS, "A fault is in one drawer at most.");
        BlessedPins y = faultsOf(2, 4);
        y.file(0, 2);
        Check.due("into its drawer again", y.file(0, 2), NOT_POSSIBLE);
        Check.due("into another one", y.file(0, 3), NOT_POSSIBLE);
        Check.due("count(13)", y.count(13), 1);
        y.file(1, 2);
        y.file(2, 2);
        Check.sentence("Changes and errors", "NOT_POSSIBLE rather than LIMIT_REACHED");
        Check.due("it is in the full drawer", y.file(2, 2), NOT_POSSIBLE);
        y.fault(0, 0, 0);
        Check.due("the full drawer is of another kind", y.file(4, 2), NOT_POSSIBLE);
        Check.due("the full drawer is of its kind", y.file(3, 2), LIMIT);
    }

    private static void countArguments() {
        Check.sentence(27, "what: 0 to 15; INVALID_ARGUMENT if what is out of range");
        BlessedPins x = new BlessedPins();
        Check.due("count(-1)", x.count(-1), INVALID);
        Check.due("count(0)", x.count(0), 0);
        Check.due("count(15)", x.count(15), 0);
        Check.due("count(16)", x.count(16), INVALID);
        for (int number : FAR) {
            Check.due("count(" + number + ")", x.count(number), INVALID);
        }
    }

    private static void countsOfParts() {
        Check.sentence(27, "0: nets; 1: chips; 2: faults");
        BlessedPins x = new BlessedPins();
        for (int i = 0; i < 8; i++) {
            x.net(3 << 2 * i);
            Check.due("nets", x.count(0), i + 1);
        }
        for (int i = 0; i < 5; i++) {
            x.chip(2 * i, 2 * i + 1, 0);
            Check.due("chips", x.count(1), i + 1);
        }
        for (int i = 0; i < 10; i++) {
            x.fault(0, i, 0);
            Check.due("faults", x.count(2), i + 1);
        }
        Check.sentence(27, "5: vouchers; 8: tests so far");
        x.vouchers(20);
        Check.due("vouchers", x.count(5), 20);
        for (int i = 1; i <= 6; i++) {
            x.test();
            Check.due("tests", x.count(8), i);
        }
        x.plant(0);
        x.pass(1);
        Check.due("tests of all plantings and days", x.count(8), 6);
        Check.sentence(27, "11 to 15: faults in the drawers 0 to 4");
        BlessedPins y = faultsOf(0, 1);
        int[] others = {0, 1, 0, 0, 0};
        for (int kind = 1; kind < 5; kind++) {
            y.fault(kind, 0, others[kind]);
        }
        for (int kind = 4; kind >= 0; kind--) {
            y.file(kind, kind);
            for (int drawer = 0; drawer < 5; drawer++) {
                Check.due("count(" + (11 + drawer) + ")", y.count(11 + drawer), drawer >= kind ? 1 : 0);
            }
        }
    }

    private static void countsOfPins() {
        Check.sentence(27, "6: pins that can be touched now");
        BlessedPins x = new BlessedPins();
        x.chip(0, 1, 4 + 8);
        x.fault(4, 0, 0);
        x.bless(0, 1);
        x.bless(9, 2);
        Check.due("one is blessed", x.count(6), 1);
        x.vouch(1);
        Check.due("one has a voucher", x.count(6), 2);
        Check.sentence(27, "7: pins that are reached now on a board without fault");
        Check.due("two cells are reached", x.count(7), 4);
        x.plant(0);
        Check.due("also if the chip is planted as dead", x.count(7), 4);
        Check.due("the cells are not touched", x.count(6), 2);
        x.pass(1);
        Check.due("the next day: count(6)", x.count(6), 1);
        Check.due("the next day: count(7)", x.count(7), 1);
        BlessedPins y = new BlessedPins();
        Check.due("none: count(6)", y.count(6), 0);
        Check.due("none: count(7)", y.count(7), 0);
        for (int pin = 0; pin < 16; pin++) {
            y.bless(pin, 1);
        }
        Check.due("all: count(6)", y.count(6), 16);
        Check.due("all: count(7)", y.count(7), 16);
    }

    private static void countsOfStatesAndText() {
        Check.sentence(27, "3: the day; 4: the day of the week");
        BlessedPins x = new BlessedPins();
        x.pass(6);
        Check.due("count(3)", x.count(3), 6);
        Check.due("count(4)", x.count(4), 6);
        x.pass(1);
        Check.due("count(3)", x.count(3), 7);
        Check.due("count(4)", x.count(4), 0);
        Check.sentence(27, "9: states in the history");
        int[] due = {3, 4, 4, 4};
        for (int i = 0; i < 4; i++) {
            x.pass(1);
            Check.due("after " + (i + 3) + " changes", x.count(9), due[i]);
        }
        Check.sentence(27, "10: the length of the text");
        for (int i = 1; i <= 100; i++) {
            x.type(32);
            Check.due("text of " + i, x.count(10), i);
        }
        x.type(32);
        Check.due("full", x.count(10), 100);
        x.clearText();
        Check.due("empty", x.count(10), 0);
    }
}
