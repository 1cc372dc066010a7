/** Each sentence of "The board", "Touching and scanning" and "Measuring" that names an edge. */
public final class EdgesOfTermsTest {
    private static final int INVALID = BlessedPins.INVALID_ARGUMENT;
    private static final int NOT_POSSIBLE = BlessedPins.NOT_POSSIBLE;
    private static final int LIMIT = BlessedPins.LIMIT_REACHED;
    private static final int NOT_FOUND = BlessedPins.NOT_FOUND;
    private static final int NONE = BlessedPins.NONE;
    private static final String TERMS = "Terms";
    private static final String BOARD = "The board";
    private static final String TOUCHING = "Touching and scanning";
    private static final String MEASURING = "Measuring";

    public static void main(String[] args) {
        theLastCall();
        numbersAndSets();
        pinsAndNets();
        chipsOfPins();
        faultsOfABoard();
        touching();
        feedingAndReading();
        chipsBehindChips();
        links();
        linksOfTwoPins();
        linksWithFaults();
        rings();
        openPinsThatCanBeTouched();
        reachedPins();
        readingsOfLooseAndOpenPins();
        readingsOfNets();
        readingsOfShorts();
        outcomesThatDiffer();
        looksAndTwins();
        Check.finish("EdgesOfTermsTest");
    }

    /** The chips of these entries and exits, without cells. */
    private static BlessedPins chips(int... pins) {
        BlessedPins x = new BlessedPins();
        for (int i = 0; i + 1 < pins.length; i += 2) {
            x.chip(pins[i], pins[i + 1], 0);
        }
        return x;
    }

    private static void blessAll(BlessedPins x, int pins, int days) {
        for (int pin = 0; pin < 16; pin++) {
            if ((pins >> pin & 1) == 1) {
                x.bless(pin, days);
            }
        }
    }

    /** The chips that are scanned if these pins alone can be touched; 17 of the object's calls. */
    private static int scannedWith(BlessedPins x, int pins, int fault) {
        for (int pin = 0; pin < 16; pin++) {
            x.bless(pin, pins >> pin & 1);
        }
        return x.scanned(0, fault);
    }

    private static void theLastCall() {
        Check.sentence("What it is", "An object is used for at most 512 calls after it has been made");
        BlessedPins x = new BlessedPins();
        x.net(3);
        x.fault(2, 0, 0);
        x.fault(0, 1, 0);
        for (int call = 4; call <= 510; call++) {
            x.bless(call % 2, 1 << call % 7);
        }
        Check.due("call 511: bless(1, 2), before it day 5", x.bless(1, 2), 1 << 509 % 7);
        Check.due("call 512: daysOf(0), pin 0 on day 6, pin 1 on day 1", x.daysOf(0), 64 + 2);
    }

    private static void numbersAndSets() {
        Check.sentence(TERMS, "Sets are told as bits: bit k is for number k.");
        BlessedPins x = new BlessedPins();
        x.net(1 + 32768);
        Check.due("bit 0: pinOf(0, 0)", x.pinOf(0, 0), 0);
        Check.due("bit 15: pinOf(15, 0)", x.pinOf(15, 0), 0);
        Check.due("no bit: pinOf(1, 0)", x.pinOf(1, 0), NOT_FOUND);
        x.bless(15, 1 + 64);
        Check.due("day 0: reached(0, NONE)", x.reached(0, NONE), 32768);
        Check.due("day 6: reached(6, NONE)", x.reached(6, NONE), 32768);
        Check.due("day 5: reached(5, NONE)", x.reached(5, NONE), 0);
        Check.sentence(TERMS, "Days of the week are numbered from 0 to 6.");
        Check.due("at first", x.count(4), 0);
        Check.due("pass(6)", x.pass(6), 6);
        Check.due("pass(1), around", x.pass(1), 0);
        Check.due("pass(7), a week", x.pass(7), 0);
        Check.due("count(3)", x.count(3), 14);
        Check.due("outcomes(-1)", x.outcomes(-1), INVALID);
        Check.due("outcomes(7)", x.outcomes(7), INVALID);
    }

    private static void pinsAndNets() {
        Check.sentence(BOARD, "There are 16 pins, numbered from 0.");
        BlessedPins x = new BlessedPins();
        Check.due("pinOf(-1, 3)", x.pinOf(-1, 3), INVALID);
        Check.due("pinOf(0, 3)", x.pinOf(0, 3), 0);
        Check.due("pinOf(15, 3)", x.pinOf(15, 3), 0);
        Check.due("pinOf(16, 3)", x.pinOf(16, 3), INVALID);
        Check.sentence(BOARD, "There are at most 8 nets, numbered from 0");
        for (int net = 0; net < 8; net++) {
            Check.due("net " + net, x.net(3 << 2 * net), net);
        }
        Check.due("count(0)", x.count(0), 8);
        for (int pin = 0; pin < 16; pin++) {
            Check.due("a ninth finds no free pin: pinOf(" + pin + ", 0)", x.pinOf(pin, 0), pin / 2);
        }
        Check.sentence(BOARD, "each with 2 to 5 pins");
        BlessedPins y = new BlessedPins();
        Check.due("none", y.net(0), INVALID);
        Check.due("1", y.net(32768), INVALID);
        Check.due("6", y.net(63), INVALID);
        Check.due("16", y.net(65535), INVALID);
        Check.due("2", y.net(3), 0);
        Check.due("5", y.net(31 << 2), 1);
        Check.due("3", y.net(7 << 7), 2);
        Check.due("4", y.net(15 << 10), 3);
        Check.sentence(BOARD, "a pin is in one net at most");
        for (int pin = 0; pin < 14; pin++) {
            Check.due("pins " + pin + " and 15", y.net(1 << pin | 32768), NOT_POSSIBLE);
        }
        Check.due("the same net", y.net(3), NOT_POSSIBLE);
        Check.due("pins 14 and 15", y.net(16384 + 32768), 4);
    }

    private static void chipsOfPins() {
        Check.sentence(BOARD, "There are at most 5 chips, numbered from 0");
        BlessedPins x = new BlessedPins();
        for (int chip = 0; chip < 5; chip++) {
            Check.due("chip " + chip, x.chip(15 - chip, chip, 0), chip);
        }
        Check.due("a sixth", x.chip(5, 6, 0), LIMIT);
        Check.sentence(BOARD, "each with an entry pin, an exit pin, and up to 5 cells");
        for (int many = 0; many <= 14; many++) {
            int due = many <= 5 ? 0 : INVALID;
            Check.due(many + " cells", new BlessedPins().chip(0, 1, (1 << many) - 1 << 2), due);
        }
        Check.sentence(BOARD, "a pin is of one chip at most (as its entry, its exit or a cell)");
        String[] roles = {"entry", "exit", "cell"};
        for (int before = 0; before < 3; before++) {
            for (int role = 0; role < 3; role++) {
                BlessedPins y = new BlessedPins();
                Check.due("pin 9 as " + roles[before], chipWithNine(y, before, 0), 0);
                Check.due("then as " + roles[role], chipWithNine(y, role, 3), NOT_POSSIBLE);
            }
        }
    }

    /** A chip of the pins from first on, one of which is taken for pin 9. */
    private static int chipWithNine(BlessedPins x, int role, int first) {
        return x.chip(role == 0 ? 9 : first, role == 1 ? 9 : first + 1, role == 2 ? 1 << 9 : 1 << first + 2);
    }

    private static void faultsOfABoard() {
        Check.sentence(BOARD, "There are at most 10 faults, numbered from 0");
        BlessedPins x = new BlessedPins();
        for (int fault = 0; fault < 10; fault++) {
            Check.due("fault " + fault, x.fault(0, 15 - fault, 0), fault);
        }
        Check.due("an eleventh", x.fault(0, 0, 0), LIMIT);
        Check.due("count(2)", x.count(2), 10);
        Check.sentence(BOARD, "of the kinds: 0 open, of a pin; 1 short, of two nets; 2 low, of a net;"
                + " 3 high, of a net; 4 dead, of a chip");
        BlessedPins y = new BlessedPins();
        int[] withoutParts = {0, INVALID, INVALID, INVALID, INVALID};
        for (int kind = 0; kind < 5; kind++) {
            Check.due("kind " + kind + " without parts", y.fault(kind, 0, kind == 1 ? 1 : 0), withoutParts[kind]);
        }
        y.net(3);
        Check.due("a short with one net", y.fault(1, 0, 1), INVALID);
        y.net(12);
        y.chip(14, 15, 0);
        for (int kind = 1; kind < 5; kind++) {
            Check.due("kind " + kind, y.fault(kind, 0, kind == 1 ? 1 : 0), kind);
        }
        Check.sentence(BOARD, "No two faults are the same.");
        for (int kind = 0; kind < 5; kind++) {
            Check.due("kind " + kind + " again", y.fault(kind, 0, kind == 1 ? 1 : 0), NOT_POSSIBLE);
        }
        y.net(48);
        Check.due("a short with another second net", y.fault(1, 0, 2), 5);
        Check.due("a short with another first net", y.fault(1, 1, 2), 6);
        Check.due("the same kind of another net", y.fault(2, 1, 0), 7);
        Check.sentence(BOARD, "A board has no fault, or one of these.");
        BlessedPins z = new BlessedPins();
        z.net(3);
        z.net(12);
        z.fault(2, 0, 0);
        z.fault(3, 1, 0);
        z.fault(3, 0, 0);
        blessAll(z, 5, 1);
        z.plant(0);
        z.plant(1);
        Check.due("the second planting alone: test()", z.test(), 1);
        Check.due("suspects()", z.suspects(), 2);
        z.plant(NONE);
        Check.due("none at all: test()", z.test(), 1);
        Check.due("suspects()", z.suspects(), 1024);
    }

    private static void touching() {
        Check.sentence(TOUCHING, "Each pin is blessed on some days of the week (on none, at first).");
        BlessedPins x = new BlessedPins();
        for (int pin = 0; pin < 16; pin++) {
            Check.due("bless(" + pin + ", 127)", x.bless(pin, 127), 0);
        }
        for (int day = 0; day < 7; day++) {
            Check.due("all pins on day " + day, x.reached(day, NONE), 65535);
        }
        blessAll(x, 65535, 0);
        Check.due("on none again", x.reached(0, NONE), 0);
        Check.sentence(TOUCHING, "On the present day those pins can be touched that are blessed on this day of the week");
        BlessedPins y = new BlessedPins();
        y.bless(3, 1 + 64);
        Check.due("day 0", y.pinOf(3, 4), 1);
        y.pass(5);
        Check.due("day 5", y.pinOf(3, 4), 0);
        y.pass(1);
        Check.due("day 6", y.pinOf(3, 4), 1);
        y.pass(1);
        Check.due("day 7 is day 0", y.pinOf(3, 4), 1);
        y.pass(1);
        Check.due("day 8 is day 1", y.pinOf(3, 4), 0);
        Check.sentence(TOUCHING, "or for which a voucher was spent on this day");
        y.vouch(4);
        Check.due("with a voucher", y.pinOf(4, 4), 1);
        Check.due("its neighbour", y.pinOf(5, 4), 0);
        y.pass(7);
        Check.due("the same day of the next week", y.pinOf(4, 4), 0);
    }

    private static void feedingAndReading() {
        Check.sentence(TOUCHING, "a chip is fed if it is not dead, and its entry pin can be touched");
        BlessedPins x = chips(0, 1);
        x.fault(4, 0, 0);
        Check.due("fed and read", scannedWith(x, 1 + 2, NONE), 1);
        Check.due("read, but not fed", scannedWith(x, 2, NONE), 0);
        Check.due("dead", scannedWith(x, 1 + 2, 0), 0);
        Check.sentence(TOUCHING, "It is read if it is not dead, and its exit pin can be touched");
        Check.due("fed, but not read", scannedWith(x, 1, NONE), 0);
        Check.due("neither", scannedWith(x, 0, NONE), 0);
        Check.due("other pins", scannedWith(x, 65532, NONE), 0);
        Check.sentence(TOUCHING, "A chip is scanned if it is fed and read.");
        x.bless(0, 1 + 2);
        x.bless(1, 2 + 4);
        Check.due("fed on day 0", x.scanned(0, NONE), 0);
        Check.due("fed and read on day 1", x.scanned(1, NONE), 1);
        Check.due("read on day 2", x.scanned(2, NONE), 0);
        BlessedPins y = chips(0, 1, 2, 3);
        Check.due("one is fed, the other one read", scannedWith(y, 1 + 8, NONE), 0);
        Check.due("no chips", scannedWith(new BlessedPins(), 65535, NONE), 0);
    }

    private static void chipsBehindChips() {
        Check.sentence(TOUCHING, "or is linked with the exit pin of a chip that is fed");
        BlessedPins up = chips(0, 1, 2, 3, 4, 5, 6, 7, 8, 9);
        BlessedPins down = chips(8, 9, 6, 7, 4, 5, 2, 3, 0, 1);
        for (int net = 0; net < 4; net++) {
            up.net(6 << 2 * net);
            down.net(6 << 2 * net);
        }
        for (int chip = 0; chip < 5; chip++) {
            up.fault(4, chip, 0);
            down.fault(4, chip, 0);
        }
        Check.due("five, fed by the first one", scannedWith(up, 1 + 512, NONE), 31);
        Check.due("five, the last one told first", scannedWith(down, 1 + 512, NONE), 31);
        Check.due("the first one cannot be touched", scannedWith(up, 512, NONE), 0);
        for (int chip = 0; chip < 5; chip++) {
            Check.due("chip " + chip + " is dead", scannedWith(up, 1 + 512, chip), 0);
            Check.due("chip " + chip + " is dead, all exits touched",
                    scannedWith(up, 1 + 2 + 8 + 32 + 128 + 512, chip), (1 << chip) - 1);
        }
        Check.sentence(TOUCHING, "or is linked with the entry pin of a chip that is read");
        Check.due("five, read by the last one", scannedWith(up, 1 + 4 + 16 + 64 + 256 + 512, NONE), 31);
        Check.due("the last one cannot be touched", scannedWith(up, 1 + 4 + 16 + 64 + 256, NONE), 0);
        Check.due("it can, but no exit else", scannedWith(up, 256 + 512, NONE), 16);
        for (int chip = 0; chip < 5; chip++) {
            Check.due("chip " + chip + " is dead, all entries touched",
                    scannedWith(up, 1 + 4 + 16 + 64 + 256 + 512, chip), 31 - (2 << chip) + 1);
        }
        Check.due("entry 0 and exit 2", scannedWith(up, 1 + 32, NONE), 7);
        Check.due("entry 2 and exit 4", scannedWith(up, 16 + 512, NONE), 28);
        Check.due("entry 2 and exit 1", scannedWith(up, 16 + 8, NONE), 0);
    }

    private static void links() {
        Check.sentence(TOUCHING, "An exit pin and an entry pin are linked if they are in one net");
        BlessedPins x = chips(0, 1, 2, 3);
        Check.due("in no net", scannedWith(x, 1 + 8, NONE), 0);
        x.net(2 + 64);
        Check.due("the exit alone is in it", scannedWith(x, 1 + 8, NONE), 0);
        x.net(4 + 128);
        Check.due("in two nets", scannedWith(x, 1 + 8, NONE), 0);
        BlessedPins y = chips(0, 1, 2, 3, 4, 5);
        y.net(2 + 4 + 16);
        Check.due("an exit and two entries", scannedWith(y, 1 + 8 + 32, NONE), 7);
        Check.due("the second one", scannedWith(y, 1 + 32, NONE), 5);
        BlessedPins z = chips(0, 1, 2, 3, 4, 5);
        z.net(2 + 8 + 16);
        Check.due("two exits and an entry", scannedWith(z, 1 + 4 + 32, NONE), 7);
        Check.due("the second one", scannedWith(z, 4 + 32, NONE), 6);
    }

    private static void linksOfTwoPins() {
        Check.sentence(TOUCHING, "An exit pin and an entry pin are linked");
        BlessedPins x = chips(0, 1, 2, 3);
        x.net(2 + 8);
        Check.due("no two exits", scannedWith(x, 1 + 2 + 4, NONE), 1);
        BlessedPins y = chips(0, 1, 2, 3);
        y.net(1 + 4);
        Check.due("no two entries", scannedWith(y, 1 + 2 + 8, NONE), 1);
        BlessedPins z = new BlessedPins();
        z.chip(0, 1, 16);
        z.chip(2, 3, 0);
        z.net(4 + 16);
        Check.due("no cell and entry", scannedWith(z, 1 + 2 + 8, NONE), 1);
        BlessedPins w = new BlessedPins();
        w.chip(0, 1, 0);
        w.chip(2, 3, 16);
        w.net(2 + 16);
        Check.due("no cell and exit", scannedWith(w, 1 + 4 + 8, NONE), 2);
        BlessedPins v = chips(0, 1);
        v.net(1 + 64);
        v.net(2 + 128);
        Check.due("no touched pin and entry", scannedWith(v, 64 + 2, NONE), 0);
        Check.due("no touched pin and exit", scannedWith(v, 1 + 128, NONE), 0);
        BlessedPins u = chips(0, 1, 2, 3);
        u.net(2 + 4);
        Check.due("an exit that is touched, of a chip that is not fed", scannedWith(u, 2 + 8, NONE), 0);
        Check.due("an entry that is touched, of a chip that is not read", scannedWith(u, 1 + 4, NONE), 0);
    }

    private static void linksWithFaults() {
        BlessedPins x = chips(0, 1, 2, 3);
        x.net(2 + 4 + 64);
        x.net(128 + 256);
        x.fault(0, 1, 0);
        x.fault(0, 2, 0);
        x.fault(0, 6, 0);
        x.fault(1, 0, 1);
        x.fault(2, 0, 0);
        x.fault(3, 0, 0);
        x.fault(2, 1, 0);
        x.fault(3, 1, 0);
        Check.sentence(TOUCHING, "neither is open");
        Check.due("none is", scannedWith(x, 1 + 8, NONE), 3);
        Check.due("the exit is open", scannedWith(x, 1 + 8, 0), 0);
        Check.due("the entry is open", scannedWith(x, 1 + 8, 1), 0);
        Check.due("a third pin is open", scannedWith(x, 1 + 8, 2), 3);
        Check.sentence(TOUCHING, "that net is neither low nor high");
        Check.due("it is low", scannedWith(x, 1 + 8, 4), 0);
        Check.due("it is high", scannedWith(x, 1 + 8, 5), 0);
        Check.due("another net is low", scannedWith(x, 1 + 8, 6), 3);
        Check.due("another net is high", scannedWith(x, 1 + 8, 7), 3);
        Check.sentence(TOUCHING, "(a short makes no link)");
        Check.due("and breaks none", scannedWith(x, 1 + 8, 3), 3);
        BlessedPins y = chips(0, 1, 2, 3);
        y.net(2 + 64);
        y.net(4 + 128);
        y.fault(1, 0, 1);
        Check.due("between the exit's net and the entry's", scannedWith(y, 1 + 8, 0), 0);
    }

    private static void rings() {
        Check.sentence(TOUCHING, "Chips are fed and read from pins that can be touched on alone (not round by themselves)");
        BlessedPins x = chips(0, 1, 2, 3, 4, 5);
        x.net(2 + 4);
        x.net(8 + 16);
        x.net(32 + 1);
        Check.due("a ring of three", scannedWith(x, 0, NONE), 0);
        Check.due("fed alone", scannedWith(x, 4, NONE), 0);
        Check.due("read alone", scannedWith(x, 2, NONE), 0);
        Check.due("fed and read all around", scannedWith(x, 4 + 2, NONE), 7);
        Check.due("from pins elsewhere", scannedWith(x, 65472, NONE), 0);
        BlessedPins y = chips(0, 1);
        y.net(3);
        Check.due("a chip alone", scannedWith(y, 0, NONE), 0);
        Check.due("a chip alone, read", scannedWith(y, 2, NONE), 0);
        Check.due("a chip alone, fed", scannedWith(y, 1, NONE), 0);
        Check.due("a chip alone, both", scannedWith(y, 3, NONE), 1);
    }

    private static void openPinsThatCanBeTouched() {
        Check.sentence(TOUCHING, "a pin that is open and can be touched feeds, or reads, its chip all the same");
        BlessedPins x = chips(0, 1);
        x.fault(0, 0, 0);
        x.fault(0, 1, 0);
        Check.due("the entry, in no net", scannedWith(x, 3, 0), 1);
        Check.due("the exit, in no net", scannedWith(x, 3, 1), 1);
        BlessedPins y = chips(0, 1, 2, 3);
        y.net(2 + 4);
        y.fault(0, 1, 0);
        y.fault(0, 2, 0);
        y.fault(2, 0, 0);
        y.fault(3, 0, 0);
        Check.due("the exit reads, but feeds nothing behind", scannedWith(y, 1 + 2 + 8, 0), 1);
        Check.due("the entry feeds, but reads nothing ahead", scannedWith(y, 1 + 4 + 8, 1), 2);
        Check.due("both can be touched", scannedWith(y, 1 + 2 + 4 + 8, 0), 3);
        Check.due("the exit of a low net", scannedWith(y, 1 + 2 + 8, 2), 1);
        Check.due("the entry of a high net", scannedWith(y, 1 + 4 + 8, 3), 2);
    }

    private static void reachedPins() {
        Check.sentence(TOUCHING, "Reached are the pins that can be touched, and the cells of all chips that are scanned.");
        BlessedPins x = new BlessedPins();
        x.chip(0, 1, 31 << 11);
        x.chip(2, 3, 0);
        x.net(2 + 4);
        x.fault(4, 0, 0);
        Check.due("nothing", x.reached(0, NONE), 0);
        for (int pin = 0; pin < 16; pin++) {
            Check.due("reads of pin " + pin, x.reads(0, NONE, pin, 1), NOT_FOUND);
        }
        blessAll(x, 1 + 8, 1);
        Check.due("five cells, not the pins between", x.reached(0, NONE), 1 + 8 + (31 << 11));
        Check.due("dead", x.reached(0, 0), 1 + 8);
        x.bless(15, 1 + 2);
        Check.due("a cell that can be touched", x.reached(0, NONE), 1 + 8 + (31 << 11));
        Check.due("a cell of a chip that is not scanned", x.reached(1, NONE), 32768);
        Check.due("a cell of a dead chip", x.reached(0, 0), 1 + 8 + 32768);
    }

    private static void readingsOfLooseAndOpenPins() {
        Check.sentence(MEASURING, "each time all reached pins are read (bits, 0 for pins that are not reached)");
        BlessedPins x = new BlessedPins();
        x.net(1 + 2 + 4);
        x.fault(3, 0, 0);
        x.fault(0, 0, 0);
        x.fault(0, 15, 0);
        blessAll(x, 1 + 2 + 16384 + 32768, 1);
        Check.due("pin 2 is not reached", x.reads(0, NONE, 0, 1), 3);
        Check.due("pin 2 is not reached, high", x.reads(0, 0, 14, 0), 3);
        Check.sentence(MEASURING, "A pin that is open, or in no net, reads what it is driven with");
        Check.due("in no net, 1", x.reads(0, NONE, 15, 1), 32768);
        Check.due("in no net, 0", x.reads(0, NONE, 15, 0), 0);
        Check.due("in no net and open, 1", x.reads(0, 2, 15, 1), 32768);
        Check.due("open, 1", x.reads(0, 1, 0, 1), 1);
        Check.due("open, 0", x.reads(0, 1, 0, 0), 0);
        Check.sentence(MEASURING, "or 0 if another one is driven");
        Check.due("in no net", x.reads(0, NONE, 14, 1), 16384);
        Check.due("open, another one of its net", x.reads(0, 1, 1, 1), 2);
        Check.due("open, one in no net", x.reads(0, 1, 14, 1), 16384);
    }

    private static void readingsOfNets() {
        BlessedPins x = new BlessedPins();
        x.net(31);
        x.net(96);
        x.fault(2, 0, 0);
        x.fault(3, 0, 0);
        x.fault(0, 4, 0);
        blessAll(x, 127 + 128, 1);
        Check.sentence(MEASURING, "A net that is low reads 0, whatever is driven (the pin that is driven, too)");
        for (int pin = 0; pin < 5; pin++) {
            Check.due("low, pin " + pin, x.reads(0, 0, pin, 1), 0);
        }
        Check.due("low, another net", x.reads(0, 0, 5, 1), 96);
        Check.sentence(MEASURING, "one that is high reads 1, whatever is driven (the pin that is driven, too)");
        for (int pin = 0; pin < 5; pin++) {
            Check.due("high, pin " + pin + " with 0", x.reads(0, 1, pin, 0), 31);
            Check.due("high, pin " + pin + " with 1", x.reads(0, 1, pin, 1), 31);
        }
        Check.due("high, another net with 0", x.reads(0, 1, 5, 0), 31);
        Check.due("high, another net with 1", x.reads(0, 1, 6, 1), 31 + 96);
        Check.due("high, no net", x.reads(0, 1, 7, 1), 31 + 128);
        Check.sentence(MEASURING, "Otherwise a net reads what a pin of it, that is not open, is driven with");
        Check.due("1", x.reads(0, NONE, 3, 1), 31);
        Check.due("0", x.reads(0, NONE, 3, 0), 0);
        Check.due("without the open pin", x.reads(0, 2, 3, 1), 15);
        Check.sentence(MEASURING, "or 0 if none is driven");
        Check.due("the open pin alone is driven", x.reads(0, 2, 4, 1), 16);
        Check.due("a pin of another net", x.reads(0, NONE, 6, 1), 96);
        Check.due("a pin of no net", x.reads(0, NONE, 7, 1), 128);
    }

    private static void readingsOfShorts() {
        Check.sentence(MEASURING, "two nets with a short between them count as one");
        BlessedPins x = new BlessedPins();
        for (int net = 0; net < 8; net++) {
            x.net(3 << 2 * net);
        }
        x.fault(1, 0, 7);
        x.fault(1, 3, 4);
        blessAll(x, 65535, 1);
        int ends = 3 + (3 << 14);
        Check.due("the first net", x.reads(0, 0, 0, 1), ends);
        Check.due("the second net", x.reads(0, 0, 15, 1), ends);
        Check.due("with 0", x.reads(0, 0, 15, 0), 0);
        Check.due("a net between", x.reads(0, 0, 6, 1), 3 << 6);
        Check.due("the other short", x.reads(0, 1, 7, 1), 15 << 6);
        Check.due("a net that is not of the other short", x.reads(0, 1, 0, 1), 3);
        Check.due("without fault", x.reads(0, NONE, 0, 1), 3);
    }

    private static void outcomesThatDiffer() {
        Check.sentence(MEASURING, "The outcome of a board on a day is which pins are reached, and all that is read.");
        BlessedPins x = new BlessedPins();
        x.chip(0, 1, 16);
        x.chip(2, 3, 0);
        x.fault(4, 0, 0);
        x.fault(4, 1, 0);
        blessAll(x, 1 + 2 + 4 + 8, 1);
        x.bless(4, 2);
        Check.due("a cell that is not reached", x.daysOf(0), 1);
        Check.due("a dead chip without cells", x.daysOf(1), 0);
        x.bless(4, 1);
        Check.due("a cell that can be touched", x.daysOf(0), 0);
        Check.sentence(MEASURING, "Each reached pin is driven with 0 and then with 1");
        BlessedPins y = new BlessedPins();
        y.net(3);
        y.net(12);
        y.fault(3, 0, 0);
        y.fault(2, 0, 0);
        y.fault(1, 0, 1);
        y.fault(0, 0, 0);
        blessAll(y, 1, 1);
        Check.due("high is told by 0 alone", y.daysOf(0), 1);
        Check.due("low is told by 1 alone", y.daysOf(1), 1);
        Check.due("one net of a short", y.daysOf(2), 0);
        Check.due("open, without its net", y.daysOf(3), 0);
        blessAll(y, 2, 2);
        Check.due("open, without the pin", y.daysOf(3), 0);
        blessAll(y, 2, 1);
        Check.due("open, with another one of its net", y.daysOf(3), 1);
        blessAll(y, 8, 1);
        Check.due("both nets of a short", y.daysOf(2), 1);
        Check.sentence(MEASURING, "A fault is told if the outcome with it differs from that without any fault.");
        BlessedPins z = new BlessedPins();
        z.fault(0, 0, 0);
        blessAll(z, 65535, 127);
        Check.due("an open pin in no net", z.daysOf(0), 0);
    }

    private static void looksAndTwins() {
        Check.sentence(MEASURING, "Two faults look alike by such a set if their outcomes are the same.");
        BlessedPins x = new BlessedPins();
        x.net(3);
        x.fault(0, 0, 0);
        x.fault(0, 1, 0);
        x.fault(2, 0, 0);
        x.bless(0, 1 + 2);
        x.bless(1, 1 + 4);
        Check.due("two open pins of a net of two", x.alike(0, 1), 127);
        Check.due("open and low", x.alike(0, 2), 127 - 7);
        Check.due("a fault and itself", x.alike(1, 1), 127);
        Check.sentence(MEASURING, "They are twins if they look alike on each of the seven days of the week (without vouchers).");
        Check.due("twin(0)", x.twin(0), 1);
        Check.due("twin(1)", x.twin(1), 0);
        BlessedPins y = new BlessedPins();
        y.net(7);
        y.fault(0, 0, 0);
        y.fault(0, 1, 0);
        Check.due("no day tells them", y.twin(0), 1);
        blessAll(y, 6, 64);
        Check.due("the last day does", y.twin(0), NONE);
        Check.due("the other one", y.twin(1), NOT_FOUND);
        blessAll(y, 6, 0);
        y.vouch(1);
        y.vouch(2);
        Check.due("vouchers do not", y.twin(0), 1);
    }
}
