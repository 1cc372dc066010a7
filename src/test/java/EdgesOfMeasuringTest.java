/** Each sentence of the promises 8 to 18 that names an edge. */
public final class EdgesOfMeasuringTest {
    private static final int INVALID = BlessedPins.INVALID_ARGUMENT;
    private static final int NOT_FOUND = BlessedPins.NOT_FOUND;
    private static final int NONE = BlessedPins.NONE;
    private static final int[] FAR = {Integer.MIN_VALUE, Integer.MIN_VALUE + 1, -32, -2, 32, 1 << 20, Integer.MAX_VALUE};
    private static final float ALL = 1f;

    public static void main(String[] args) {
        reachedArguments();
        scannedArguments();
        readsArguments();
        readsOfPins();
        daysOfFaults();
        alikePairs();
        twinsOrNone();
        noneIsNoTwin();
        lowestTwin();
        outcomesOfDays();
        likesOfDays();
        fewestArguments();
        fewestForEachFault();
        fewestForPairs();
        fewestOfSeveral();
        wantedArguments();
        wantedPins();
        wantedLowest();
        wantedNever();
        shareArguments();
        sharesOfFaults();
        withoutVouchers();
        Check.finish("EdgesOfMeasuringTest");
    }

    /** Five nets of two pins, from pin 0 on; the faults 0 to 9 are low and high of each. */
    private static BlessedPins tenFaults() {
        BlessedPins x = new BlessedPins();
        for (int net = 0; net < 5; net++) {
            x.net(3 << 2 * net);
            x.fault(2, net, 0);
            x.fault(3, net, 0);
        }
        return x;
    }

    /** One net of the pins 0 and 1, low, and blessed on the days 0 and 6. */
    private static BlessedPins oneFault() {
        BlessedPins x = new BlessedPins();
        x.net(3);
        x.fault(2, 0, 0);
        x.bless(0, 1 + 64);
        return x;
    }

    private static void reachedArguments() {
        Check.sentence(8, "day: 0 to 6; fault: number of the fault, or NONE; INVALID_ARGUMENT if an argument is out of range");
        BlessedPins x = oneFault();
        Check.due("reached(-1, 0)", x.reached(-1, 0), INVALID);
        Check.due("reached(0, 0)", x.reached(0, 0), 1);
        Check.due("reached(1, 0)", x.reached(1, 0), 0);
        Check.due("reached(6, NONE)", x.reached(6, NONE), 1);
        Check.due("reached(7, NONE)", x.reached(7, NONE), INVALID);
        Check.due("reached(0, -2)", x.reached(0, -2), INVALID);
        Check.due("reached(0, 1), the next", x.reached(0, 1), INVALID);
        Check.due("reached(0, 10), the number of none of them", x.reached(0, 10), INVALID);
        for (int number : FAR) {
            Check.due("reached(" + number + ", 0)", x.reached(number, 0), INVALID);
            Check.due("reached(0, " + number + ")", x.reached(0, number), INVALID);
        }
        Check.due("no fault at all", new BlessedPins().reached(0, 0), INVALID);
        Check.due("the tenth", tenFaults().reached(0, 9), 0);
        Check.due("an eleventh", tenFaults().reached(0, 10), INVALID);
    }

    private static void scannedArguments() {
        Check.sentence(9, "day: 0 to 6; fault: number of the fault, or NONE; INVALID_ARGUMENT if an argument is out of range");
        BlessedPins x = new BlessedPins();
        for (int chip = 0; chip < 5; chip++) {
            x.chip(2 * chip, 2 * chip + 1, 0);
            x.bless(2 * chip, 1 + 64);
            x.bless(2 * chip + 1, 1 + 64);
        }
        x.fault(4, 4, 0);
        Check.due("scanned(-1, 0)", x.scanned(-1, 0), INVALID);
        Check.due("scanned(0, NONE), all five", x.scanned(0, NONE), 31);
        Check.due("scanned(0, 0)", x.scanned(0, 0), 15);
        Check.due("scanned(5, NONE), none", x.scanned(5, NONE), 0);
        Check.due("scanned(6, 0)", x.scanned(6, 0), 15);
        Check.due("scanned(7, 0)", x.scanned(7, 0), INVALID);
        Check.due("scanned(0, -2)", x.scanned(0, -2), INVALID);
        Check.due("scanned(0, 1), the next", x.scanned(0, 1), INVALID);
        Check.due("scanned(0, 10)", x.scanned(0, 10), INVALID);
        for (int number : FAR) {
            Check.due("scanned(" + number + ", 0)", x.scanned(number, 0), INVALID);
            Check.due("scanned(0, " + number + ")", x.scanned(0, number), INVALID);
        }
        Check.due("no chips", new BlessedPins().scanned(6, NONE), 0);
    }

    private static void readsArguments() {
        Check.sentence(10, "day: 0 to 6; fault: number of the fault, or NONE; pin: 0 to 15; value: 0 or 1;"
                + " INVALID_ARGUMENT if an argument is out of range");
        BlessedPins x = oneFault();
        x.bless(15, 1 + 64);
        Check.due("day -1", x.reads(-1, 0, 15, 1), INVALID);
        Check.due("day 0", x.reads(0, 0, 15, 1), 32768);
        Check.due("day 6", x.reads(6, NONE, 15, 1), 32768);
        Check.due("day 7", x.reads(7, 0, 15, 1), INVALID);
        Check.due("fault -2", x.reads(0, -2, 15, 1), INVALID);
        Check.due("fault 1, the next", x.reads(0, 1, 15, 1), INVALID);
        Check.due("fault 10", x.reads(0, 10, 15, 1), INVALID);
        Check.due("pin -1", x.reads(0, 0, -1, 1), INVALID);
        Check.due("pin 16", x.reads(0, 0, 16, 1), INVALID);
        Check.due("value -1", x.reads(0, 0, 15, -1), INVALID);
        Check.due("value 2", x.reads(0, 0, 15, 2), INVALID);
        for (int number : FAR) {
            Check.due("day " + number, x.reads(number, 0, 15, 1), INVALID);
            Check.due("fault " + number, x.reads(0, number, 15, 1), INVALID);
            Check.due("pin " + number, x.reads(0, 0, number, 1), INVALID);
            Check.due("value " + number, x.reads(0, 0, 15, number), INVALID);
        }
        Check.due("not reached, and a wrong value", x.reads(1, 0, 15, 2), INVALID);
        Check.due("not reached, and a wrong fault", x.reads(1, 1, 15, 1), INVALID);
    }

    private static void readsOfPins() {
        Check.sentence(10, "NOT_FOUND if the pin is not reached");
        BlessedPins x = new BlessedPins();
        x.chip(0, 1, 4);
        x.net(1 + 4 + 8);
        x.fault(4, 0, 0);
        x.bless(0, 1 + 2);
        x.bless(1, 1);
        Check.due("a cell of a chip that is scanned", x.reads(0, NONE, 2, 1), 1 + 4);
        Check.due("the same with 0", x.reads(0, NONE, 2, 0), 0);
        Check.due("a cell of a dead chip", x.reads(0, 0, 2, 1), NOT_FOUND);
        Check.due("a cell on another day", x.reads(1, NONE, 2, 0), NOT_FOUND);
        Check.due("in a net with a reached pin", x.reads(0, NONE, 3, 1), NOT_FOUND);
        Check.due("no pin is reached", x.reads(2, NONE, 0, 0), NOT_FOUND);
        Check.sentence(10, "Returns the set of pins that read 1");
        Check.due("pin 0", x.reads(0, NONE, 0, 1), 1 + 4);
        Check.due("pin 0 with 0", x.reads(0, NONE, 0, 0), 0);
        Check.due("pin 0, without the cell", x.reads(0, 0, 0, 1), 1);
        BlessedPins y = new BlessedPins();
        y.net(31);
        y.fault(3, 0, 0);
        for (int pin = 0; pin < 16; pin++) {
            y.bless(pin, 64);
        }
        Check.due("pin 15 of all, high", y.reads(6, 0, 15, 1), 31 + 32768);
    }

    private static void daysOfFaults() {
        Check.sentence(11, "Returns the set of days; INVALID_ARGUMENT");
        BlessedPins x = oneFault();
        Check.due("the first day and the last", x.daysOf(0), 65);
        Check.due("NONE", x.daysOf(NONE), INVALID);
        Check.due("the next", x.daysOf(1), INVALID);
        Check.due("the number of none of them", x.daysOf(10), INVALID);
        for (int number : FAR) {
            Check.due("daysOf(" + number + ")", x.daysOf(number), INVALID);
        }
        x.bless(1, 127);
        Check.due("all days", x.daysOf(0), 127);
        x.bless(0, 0);
        x.bless(1, 0);
        Check.due("no day", x.daysOf(0), 0);
        Check.due("no fault at all", new BlessedPins().daysOf(0), INVALID);
        BlessedPins y = tenFaults();
        y.bless(9, 32);
        Check.due("the tenth", y.daysOf(9), 32);
        Check.due("an eleventh", y.daysOf(10), INVALID);
    }

    private static void alikePairs() {
        Check.sentence(12, "one, other: number of a fault, or NONE; INVALID_ARGUMENT if an argument is out of range");
        BlessedPins x = oneFault();
        Check.due("alike(NONE, NONE)", x.alike(NONE, NONE), 127);
        Check.due("alike(0, NONE)", x.alike(0, NONE), 127 - 65);
        Check.due("alike(NONE, 0)", x.alike(NONE, 0), 127 - 65);
        Check.due("alike(0, 0)", x.alike(0, 0), 127);
        Check.due("alike(0, 1)", x.alike(0, 1), INVALID);
        Check.due("alike(1, 0)", x.alike(1, 0), INVALID);
        Check.due("alike(1, 1)", x.alike(1, 1), INVALID);
        Check.due("alike(NONE, 10)", x.alike(NONE, 10), INVALID);
        Check.due("alike(10, NONE)", x.alike(10, NONE), INVALID);
        for (int number : FAR) {
            Check.due("alike(" + number + ", 0)", x.alike(number, 0), INVALID);
            Check.due("alike(0, " + number + ")", x.alike(0, number), INVALID);
        }
        BlessedPins y = tenFaults();
        y.bless(0, 127);
        Check.due("on no day", y.alike(0, 1), 0);
        Check.due("the ninth and the tenth", y.alike(8, 9), 127);
        Check.due("the tenth and an eleventh", y.alike(9, 10), INVALID);
        Check.due("no fault at all", new BlessedPins().alike(NONE, NONE), 127);
    }

    private static void twinsOrNone() {
        Check.sentence(13, "Returns the number of another fault; INVALID_ARGUMENT");
        BlessedPins x = oneFault();
        Check.due("twin(NONE)", x.twin(NONE), INVALID);
        Check.due("twin(1), the next", x.twin(1), INVALID);
        Check.due("twin(10)", x.twin(10), INVALID);
        for (int number : FAR) {
            Check.due("twin(" + number + ")", x.twin(number), INVALID);
        }
        Check.due("no fault at all", new BlessedPins().twin(0), INVALID);
        Check.sentence(13, "NOT_FOUND if it has none and is told on some day");
        Check.due("not itself, told on two days", x.twin(0), NOT_FOUND);
        x.bless(0, 64);
        Check.due("told on the last day alone", x.twin(0), NOT_FOUND);
        Check.sentence(13, "NONE if it has none, but looks like no fault on each day");
        x.bless(0, 0);
        Check.due("not itself, told on no day", x.twin(0), NONE);
        x.fault(3, 0, 0);
        Check.due("another one that looks like no fault goes first", x.twin(0), 1);
        Check.due("the other one's is 0", x.twin(1), 0);
        x.bless(0, 64);
        Check.due("unlike on the last day alone", x.twin(0), NOT_FOUND);
        Check.due("the other one", x.twin(1), NOT_FOUND);
        BlessedPins y = tenFaults();
        for (int net = 0; net < 5; net++) {
            y.bless(2 * net, 1);
        }
        y.undo();
        Check.due("the tenth, of a net that is not touched, has the ninth", y.twin(9), 8);
        y.bless(8, 1);
        Check.due("the tenth, told", y.twin(9), NOT_FOUND);
    }

    private static void noneIsNoTwin() {
        Check.sentence(13, "NONE if it has none, but looks like no fault on each day");
        BlessedPins x = new BlessedPins();
        for (int net = 0; net < 8; net++) {
            x.net(3 << 2 * net);
            x.fault(2, net, 0);
            x.bless(2 * net, 64);
        }
        x.fault(3, 0, 0);
        x.fault(0, 1, 0);
        Check.due("of ten faults the tenth alone looks like none", x.twin(9), NONE);
        for (int fault = 0; fault < 9; fault++) {
            Check.due("fault " + fault + " is told", x.twin(fault), NOT_FOUND);
        }
    }

    private static void lowestTwin() {
        Check.sentence(13, "Returns the twin of a fault with the lowest number.");
        BlessedPins x = new BlessedPins();
        x.net(3);
        x.fault(2, 0, 0);
        x.fault(0, 0, 0);
        x.fault(0, 9, 0);
        x.fault(0, 1, 0);
        x.bless(0, 1);
        x.bless(1, 1);
        Check.due("the twin behind it", x.twin(1), 3);
        Check.due("the twin ahead of it", x.twin(3), 1);
        Check.due("low has none", x.twin(0), NOT_FOUND);
        Check.due("open in no net has none", x.twin(2), NONE);
        BlessedPins y = tenFaults();
        Check.due("of nine the lowest", y.twin(9), 0);
        Check.due("but not itself", y.twin(0), 1);
        y.bless(0, 1);
        Check.due("of seven the lowest", y.twin(9), 2);
        Check.due("the first one has none", y.twin(0), NOT_FOUND);
    }

    private static void outcomesOfDays() {
        Check.sentence(14, "day: 0 to 6; INVALID_ARGUMENT if day is out of range");
        BlessedPins x = tenFaults();
        for (int net = 0; net < 5; net++) {
            x.bless(2 * net, 1 | (net < 2 ? 64 : 0) | (net == 4 ? 4 : 0));
        }
        Check.due("outcomes(-1)", x.outcomes(-1), INVALID);
        Check.due("outcomes(7)", x.outcomes(7), INVALID);
        for (int number : FAR) {
            Check.due("outcomes(" + number + ")", x.outcomes(number), INVALID);
        }
        Check.sentence(14, "how many unlike outcomes there are on a day of the week, of all faults and of none of them");
        Check.due("all eleven", x.outcomes(0), 11);
        Check.due("all alike", x.outcomes(1), 1);
        Check.due("the last net", x.outcomes(2), 3);
        Check.due("two nets", x.outcomes(6), 5);
        Check.due("without faults", new BlessedPins().outcomes(0), 1);
        Check.due("a fault that is told", oneFault().outcomes(6), 2);
        Check.due("a fault that is not told", oneFault().outcomes(5), 1);
    }

    private static void likesOfDays() {
        Check.sentence(15, "day: 0 to 6; fault: number of the fault, or NONE; INVALID_ARGUMENT if an argument is out of range");
        BlessedPins x = oneFault();
        Check.due("likes(-1, 0)", x.likes(-1, 0), INVALID);
        Check.due("likes(7, 0)", x.likes(7, 0), INVALID);
        Check.due("likes(0, -2)", x.likes(0, -2), INVALID);
        Check.due("likes(0, 1)", x.likes(0, 1), INVALID);
        Check.due("likes(0, 10)", x.likes(0, 10), INVALID);
        for (int number : FAR) {
            Check.due("likes(" + number + ", 0)", x.likes(number, 0), INVALID);
            Check.due("likes(0, " + number + ")", x.likes(0, number), INVALID);
        }
        Check.sentence(15, "Returns the set of faults, itself included, with bit 10 for none of them");
        Check.due("itself alone", x.likes(0, 0), 1);
        Check.due("none of them alone", x.likes(6, NONE), 1024);
        Check.due("both, of the fault", x.likes(3, 0), 1025);
        Check.due("both, of none", x.likes(3, NONE), 1025);
        Check.due("without faults", new BlessedPins().likes(6, NONE), 1024);
        BlessedPins y = tenFaults();
        Check.due("all eleven", y.likes(0, 9), 2047);
        y.bless(8, 1);
        Check.due("all but the last two", y.likes(0, NONE), 2047 - 512 - 256);
        Check.due("the tenth alone", y.likes(0, 9), 512);
        y.bless(9, 2);
        y.fault(0, 8, 0);
        Check.due("on another day", y.likes(1, 8), 256);
    }

    private static void fewestArguments() {
        Check.sentence(16, "what: 0 or 1; which: 0 or 1; INVALID_ARGUMENT if an argument is out of range");
        BlessedPins x = oneFault();
        for (int good = 0; good <= 1; good++) {
            Check.due("fewestDays(-1, " + good + ")", x.fewestDays(-1, good), INVALID);
            Check.due("fewestDays(2, " + good + ")", x.fewestDays(2, good), INVALID);
            Check.due("fewestDays(" + good + ", -1)", x.fewestDays(good, -1), INVALID);
            Check.due("fewestDays(" + good + ", 2)", x.fewestDays(good, 2), INVALID);
        }
        for (int number : FAR) {
            Check.due("fewestDays(" + number + ", 0)", x.fewestDays(number, 0), INVALID);
            Check.due("fewestDays(0, " + number + ")", x.fewestDays(0, number), INVALID);
        }
    }

    private static void fewestDue(String told, BlessedPins x, int what, int days) {
        Check.due(told + ": how many", x.fewestDays(what, 0), Integer.bitCount(days));
        Check.due(told + ": the set", x.fewestDays(what, 1), days);
    }

    private static void fewestForEachFault() {
        Check.sentence(16, "0: each fault that is told on some day is told");
        fewestDue("without faults", new BlessedPins(), 0, 0);
        BlessedPins x = oneFault();
        fewestDue("day 0 or day 6", x, 0, 1);
        x.bless(0, 64);
        fewestDue("the last day alone", x, 0, 64);
        x.bless(0, 0);
        fewestDue("none that is told", x, 0, 0);
        BlessedPins y = tenFaults();
        y.bless(0, 1);
        y.bless(2, 8);
        fewestDue("four of ten are told", y, 0, 1 + 8);
        BlessedPins z = new BlessedPins();
        for (int net = 0; net < 7; net++) {
            z.net(3 << 2 * net);
            z.fault(2, net, 0);
            z.bless(2 * net, 1 << net);
        }
        fewestDue("all seven", z, 0, 127);
        fewestDue("all seven for pairs", z, 1, 127);
        z.bless(12, 0);
        fewestDue("the last one is never told", z, 0, 63);
    }

    private static void fewestForPairs() {
        Check.sentence(16, "1: any two of all faults and none of them that look unlike on some day look unlike on one of these days");
        fewestDue("without faults", new BlessedPins(), 1, 0);
        BlessedPins x = oneFault();
        fewestDue("a fault and none", x, 1, 1);
        x.bless(0, 0);
        fewestDue("alike on all days", x, 1, 0);
        // Both dead chips are told on day 2, where they look alike; on the days 4 and 5 the first one alone.
        BlessedPins y = new BlessedPins();
        y.chip(0, 1, 16);
        y.chip(2, 3, 32);
        y.net(2 + 4);
        y.fault(4, 0, 0);
        y.fault(4, 1, 0);
        y.bless(0, 4 + 16 + 32);
        y.bless(3, 4);
        y.bless(1, 16 + 32);
        fewestDue("each is told on day 2", y, 0, 4);
        fewestDue("they are unlike on day 4", y, 1, 4 + 16);
        y.bless(0, 4);
        y.bless(1, 0);
        fewestDue("they are twins", y, 1, 4);
        BlessedPins z = tenFaults();
        fewestDue("ten twins", z, 1, 0);
        for (int net = 0; net < 5; net++) {
            z.bless(2 * net, 2 << net);
        }
        fewestDue("ten that are unlike", z, 1, 62);
        fewestDue("ten that are told", z, 0, 62);
        z.bless(9, 1);
        fewestDue("the last two on day 0, too", z, 1, 31);
    }

    private static void fewestOfSeveral() {
        Check.sentence(16, "of several sets that with the lowest number");
        BlessedPins x = oneFault();
        x.bless(0, 127);
        fewestDue("any day", x, 0, 1);
        x.bless(0, 2 + 64);
        fewestDue("day 1 or day 6", x, 0, 2);
        x.net(12);
        x.fault(2, 1, 0);
        x.bless(2, 4 + 8 + 32);
        fewestDue("one of two and one of three", x, 0, 2 + 4);
        x.bless(2, 32 + 64);
        Check.sentence(16, "Finds the fewest days of the week by which all is done that can be done by all seven");
        fewestDue("one day with a high number goes before two with low ones", x, 0, 64);
        fewestDue("and for pairs", x, 1, 64);
        x.net(48);
        x.fault(2, 2, 0);
        x.bless(4, 2 + 32);
        fewestDue("three faults, two in each", x, 0, 2 + 32);
    }

    private static void wantedArguments() {
        Check.sentence(17, "fault: number of the fault; day: 0 to 6; which: 0 or 1; INVALID_ARGUMENT if an argument is out of range");
        BlessedPins x = oneFault();
        Check.due("fault NONE", x.wanted(NONE, 1, 0), INVALID);
        Check.due("fault 0", x.wanted(0, 1, 0), 1);
        Check.due("fault 1, the next", x.wanted(1, 1, 0), INVALID);
        Check.due("fault 10", x.wanted(10, 1, 0), INVALID);
        Check.due("day -1", x.wanted(0, -1, 0), INVALID);
        Check.due("day 0", x.wanted(0, 0, 0), 0);
        Check.due("day 6", x.wanted(0, 6, 0), 0);
        Check.due("day 7", x.wanted(0, 7, 0), INVALID);
        Check.due("which -1", x.wanted(0, 1, -1), INVALID);
        Check.due("which 2", x.wanted(0, 1, 2), INVALID);
        for (int number : FAR) {
            Check.due("wanted(" + number + ", 0, 0)", x.wanted(number, 0, 0), INVALID);
            Check.due("wanted(0, " + number + ", 0)", x.wanted(0, number, 0), INVALID);
            Check.due("wanted(0, 0, " + number + ")", x.wanted(0, 0, number), INVALID);
        }
        BlessedPins y = new BlessedPins();
        y.fault(0, 0, 0);
        Check.due("never, and a wrong which", y.wanted(0, 0, 2), INVALID);
        Check.due("no fault at all", new BlessedPins().wanted(0, 0, 0), INVALID);
    }

    private static void wantedDue(String told, BlessedPins x, int fault, int day, int pins) {
        Check.due(told + ": how many", x.wanted(fault, day, 0), Integer.bitCount(pins));
        Check.due(told + ": the set", x.wanted(fault, day, 1), pins);
    }

    private static void wantedPins() {
        Check.sentence(17, "which: 0: how many pins, 0 to 2; 1: the set");
        BlessedPins x = new BlessedPins();
        x.net(1 + 32768);
        x.net(2 + 16384);
        x.chip(4, 5, 64);
        x.fault(2, 0, 0);
        x.fault(0, 15, 0);
        x.fault(1, 0, 1);
        x.fault(4, 0, 0);
        wantedDue("low", x, 0, 0, 1);
        wantedDue("open, the highest pin", x, 1, 0, 1 + 32768);
        wantedDue("short", x, 2, 0, 1 + 2);
        wantedDue("dead", x, 3, 0, 16 + 32);
        x.bless(15, 1);
        x.bless(5, 1);
        wantedDue("low, told already", x, 0, 0, 0);
        wantedDue("open, with the other one", x, 1, 0, 1);
        wantedDue("short, with the other net", x, 2, 0, 2);
        wantedDue("dead, with the entry", x, 3, 0, 16);
        wantedDue("low on another day", x, 0, 6, 1);
        x.bless(4, 1);
        x.bless(14, 1);
        wantedDue("short, told already", x, 2, 0, 0);
        wantedDue("dead, told already", x, 3, 0, 0);
    }

    private static void wantedLowest() {
        Check.sentence(17, "of several sets that with the lowest number");
        BlessedPins x = new BlessedPins();
        x.net(1 + 1024);
        x.net(32 + 64);
        x.fault(1, 0, 1);
        wantedDue("0 and 5, not 0 and 6 or 5 and 10", x, 0, 0, 1 + 32);
        BlessedPins y = new BlessedPins();
        y.net(8 + 32768);
        y.net(2 + 16);
        y.fault(1, 0, 1);
        wantedDue("1 and 3, not 3 and 4", y, 0, 0, 2 + 8);
        BlessedPins z = new BlessedPins();
        z.chip(15, 14, 1);
        z.net(1 + 2);
        z.fault(0, 0, 0);
        z.fault(4, 0, 0);
        wantedDue("the pins themselves, not the entry and the exit", z, 0, 0, 3);
        z.bless(14, 1);
        wantedDue("one by a scan would not do, two do", z, 0, 0, 3);
        z.bless(1, 1);
        wantedDue("the cell itself, not the entry", z, 0, 0, 1);
        wantedDue("the entry alone", z, 1, 0, 32768);
        BlessedPins w = new BlessedPins();
        w.net(31);
        w.fault(3, 0, 0);
        wantedDue("any one of five", w, 0, 6, 1);
        w.fault(0, 4, 0);
        wantedDue("the open one and any other", w, 1, 6, 1 + 16);
    }

    private static void wantedNever() {
        Check.sentence(17, "NOT_FOUND if 2 do not suffice");
        BlessedPins x = new BlessedPins();
        x.chip(0, 1, 0);
        x.chip(2, 3, 16 + 32);
        x.fault(0, 9, 0);
        x.fault(4, 0, 0);
        x.fault(4, 1, 0);
        for (int which = 0; which <= 1; which++) {
            Check.due("an open pin in no net", x.wanted(0, 0, which), NOT_FOUND);
            Check.due("a dead chip without cells", x.wanted(1, 0, which), NOT_FOUND);
        }
        wantedDue("a dead chip with cells", x, 2, 0, 4 + 8);
        x.bless(4, 1);
        wantedDue("one of its cells can be touched", x, 2, 0, 4 + 8);
        x.bless(5, 1);
        Check.due("both can", x.wanted(2, 0, 0), NOT_FOUND);
        Check.due("both can", x.wanted(2, 0, 1), NOT_FOUND);
        wantedDue("on another day", x, 2, 1, 4 + 8);
        for (int pin = 0; pin < 16; pin++) {
            x.bless(pin, 127);
        }
        Check.due("all pins can be touched", x.wanted(2, 0, 0), NOT_FOUND);
    }

    private static void shareArguments() {
        Check.sentence(18, "day: 0 to 6; INVALID_ARGUMENT if day is out of range");
        BlessedPins x = oneFault();
        Check.due("share(-1)", x.share(-1), INVALID);
        Check.due("share(0)", x.share(0), Float.floatToIntBits(ALL));
        Check.due("share(1)", x.share(1), Float.floatToIntBits(0f));
        Check.due("share(6)", x.share(6), Float.floatToIntBits(ALL));
        Check.due("share(7)", x.share(7), INVALID);
        for (int number : FAR) {
            Check.due("share(" + number + ")", x.share(number), INVALID);
            Check.due("without faults: share(" + number + ")", new BlessedPins().share(number), INVALID);
        }
    }

    private static void sharesOfFaults() {
        Check.sentence(18, "1 without faults");
        for (int day = 0; day < 7; day++) {
            Check.due("share(" + day + ")", new BlessedPins().share(day), 0x3f800000);
        }
        Check.sentence(18, "how many these are, divided by how many faults there are, in floats");
        for (int all = 1; all <= 10; all++) {
            for (int told = 0; told <= all; told++) {
                Check.due(told + " of " + all, withShare(told, all).share(3), Float.floatToIntBits((float) told / (float) all));
            }
        }
        Check.due("1 of 3", withShare(1, 3).share(3), 0x3eaaaaab);
        Check.due("1 of 10", withShare(1, 10).share(3), 0x3dcccccd);
        Check.due("9 of 10", withShare(9, 10).share(3), 0x3f666666);
        Check.due("none of 10", withShare(0, 10).share(3), 0);
        Check.due("10 of 10", withShare(10, 10).share(3), 0x3f800000);
    }

    /** Five nets; at the pins 0 to 9 so many faults, low and high, are told on day 3; open ones of the pins behind are not. */
    private static BlessedPins withShare(int told, int all) {
        BlessedPins x = new BlessedPins();
        for (int net = 0; net < 5; net++) {
            x.net(3 << 2 * net);
            x.bless(2 * net, 8);
        }
        for (int fault = 0; fault < all; fault++) {
            if (fault < told) {
                x.fault(2 + fault % 2, fault / 2, 0);
            } else {
                x.fault(0, fault, 0);
            }
        }
        return x;
    }

    private static void withoutVouchers() {
        Check.sentence("The public face", "---- days of the week, without vouchers");
        BlessedPins x = oneFault();
        x.fault(0, 0, 0);
        x.bless(0, 2);
        x.vouch(0);
        x.vouch(1);
        Check.due("reached(0, 0)", x.reached(0, 0), 0);
        Check.due("scanned(0, 0)", x.scanned(0, 0), 0);
        Check.due("reads(0, NONE, 0, 1)", x.reads(0, NONE, 0, 1), NOT_FOUND);
        Check.due("daysOf(0)", x.daysOf(0), 2);
        Check.due("alike(0, 1)", x.alike(0, 1), 127 - 2);
        Check.due("twin(1)", x.twin(1), NONE);
        Check.due("outcomes(0)", x.outcomes(0), 1);
        Check.due("likes(0, 0)", x.likes(0, 0), 1027);
        Check.due("fewestDays(0, 1)", x.fewestDays(0, 1), 2);
        Check.due("wanted(1, 0, 1)", x.wanted(1, 0, 1), 3);
        Check.due("share(0)", x.share(0), 0);
        x.chip(2, 3, 16);
        x.bless(2, 1);
        x.vouchers(3);
        x.vouch(3);
        Check.due("scanned(0, NONE), with a voucher for the exit", x.scanned(0, NONE), 0);
        Check.due("reached(0, NONE), with a voucher for the exit", x.reached(0, NONE), 4);
        Check.due("though now it is: count(7)", x.count(7), 5);
    }
}
