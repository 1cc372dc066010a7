/** Promises 8 to 18: what is reached, scanned, read and told on days of the week. */
public final class MeasuringTest {
    private static final int INVALID = BlessedPins.INVALID_ARGUMENT;
    private static final int NOT_FOUND = BlessedPins.NOT_FOUND;
    private static final int NONE = BlessedPins.NONE;

    public static void main(String[] args) {
        reachedAndScanned();
        chainsOfChips();
        rings();
        shortsMakeNoLinks();
        openPinsThatAreTouched();
        readings();
        told();
        twins();
        twinsOfTen();
        outcomesAndLikes();
        fewestDays();
        wanted();
        shares();
        vouchersDoNotCount();
        boardOfNow();
        wrongArguments();
        Check.finish("MeasuringTest");
    }

    /** Pins 1 and 2 link chip 0 (0 in, 1 out, cell 4) to chip 1 (2 in, 3 out, cell 5). */
    private static BlessedPins chain() {
        BlessedPins x = new BlessedPins();
        x.chip(0, 1, 16);
        x.chip(2, 3, 32);
        x.net(6);
        x.bless(0, 127);
        x.bless(3, 127);
        return x;
    }

    private static void reachedAndScanned() {
        Check.promise(8);
        BlessedPins x = new BlessedPins();
        x.chip(0, 1, 16 + 32);
        x.bless(0, 1 + 2);
        x.bless(1, 1 + 4);
        x.fault(4, 0, 0);
        x.fault(0, 0, 0);
        Check.due("reached(0, NONE)", x.reached(0, NONE), 51);
        Check.due("reached(1, NONE), entry alone", x.reached(1, NONE), 1);
        Check.due("reached(2, NONE), exit alone", x.reached(2, NONE), 2);
        Check.due("reached(3, NONE)", x.reached(3, NONE), 0);
        Check.due("reached(0, 0), dead", x.reached(0, 0), 3);
        Check.due("reached(0, 1), open but touched", x.reached(0, 1), 51);
        Check.promise(9);
        Check.due("scanned(0, NONE)", x.scanned(0, NONE), 1);
        Check.due("scanned(1, NONE)", x.scanned(1, NONE), 0);
        Check.due("scanned(2, NONE)", x.scanned(2, NONE), 0);
        Check.due("scanned(0, 0)", x.scanned(0, 0), 0);
        Check.due("scanned(0, 1)", x.scanned(0, 1), 1);
    }

    private static void chainsOfChips() {
        Check.promise(9);
        BlessedPins x = chain();
        x.fault(0, 1, 0);
        x.fault(0, 2, 0);
        x.fault(2, 0, 0);
        x.fault(3, 0, 0);
        x.fault(4, 0, 0);
        x.fault(4, 1, 0);
        Check.due("scanned(0, NONE)", x.scanned(0, NONE), 3);
        Check.due("reached(0, NONE)", x.reached(0, NONE), 1 + 8 + 16 + 32);
        for (int fault = 0; fault < 6; fault++) {
            Check.due("scanned(0, " + fault + ")", x.scanned(0, fault), 0);
            Check.due("reached(0, " + fault + ")", x.reached(0, fault), 9);
        }
        x.bless(1, 127);
        Check.due("with pin 1, open 1", x.scanned(0, 0), 1);
        Check.due("with pin 1, dead 1", x.scanned(0, 5), 1);
        Check.due("with pin 1, dead 0", x.scanned(0, 4), 0);
        BlessedPins y = new BlessedPins();
        for (int chip = 4; chip >= 0; chip--) {
            y.chip(3 * chip, 3 * chip + 1, 1 << (3 * chip + 2));
        }
        for (int chip = 0; chip < 4; chip++) {
            y.net(1 << (3 * chip + 1) | 1 << (3 * chip + 3));
        }
        y.bless(0, 1);
        y.bless(13, 1);
        y.fault(0, 7, 0);
        Check.due("five chips one behind the other", y.scanned(0, NONE), 31);
        Check.due("and their cells", y.reached(0, NONE), 1 | 1 << 13 | 1 << 2 | 1 << 5 | 1 << 8 | 1 << 11 | 1 << 14);
        Check.due("broken in the middle", y.scanned(0, 0), 0);
        y.bless(6, 1);
        Check.due("fed behind the break", y.scanned(0, 0), 0);
        y.bless(9, 1);
        Check.due("fed behind the break, where it is whole", y.scanned(0, 0), 3);
    }

    private static void rings() {
        Check.promise(9);
        BlessedPins x = new BlessedPins();
        x.chip(0, 1, 16);
        x.chip(2, 3, 32);
        x.net(2 + 4);
        x.net(1 + 8);
        Check.due("a ring does not feed itself", x.scanned(0, NONE), 0);
        x.bless(0, 1);
        Check.due("fed, but not read", x.scanned(0, NONE), 0);
        x.bless(3, 1);
        Check.due("fed and read all around", x.scanned(0, NONE), 3);
        BlessedPins y = new BlessedPins();
        y.chip(0, 1, 16);
        y.net(3);
        y.bless(1, 1);
        Check.due("a chip does not feed itself", y.scanned(0, NONE), 0);
    }

    private static void shortsMakeNoLinks() {
        Check.promise(9);
        BlessedPins x = new BlessedPins();
        x.chip(0, 1, 16);
        x.chip(2, 3, 32);
        x.net(2 + 64);
        x.net(4 + 128);
        x.fault(1, 0, 1);
        x.bless(0, 1);
        x.bless(3, 1);
        Check.due("a short makes no link", x.scanned(0, 0), 0);
    }

    private static void openPinsThatAreTouched() {
        Check.promise(9);
        BlessedPins x = chain();
        x.fault(0, 2, 0);
        x.bless(2, 1);
        Check.due("open 2, touched, feeds chip 1", x.scanned(0, 0), 2);
        x.bless(1, 1);
        Check.due("open 2, and 1 reads chip 0", x.scanned(0, 0), 3);
        x.fault(2, 0, 0);
        Check.due("a touched pin of a low net feeds", x.scanned(0, 1), 3);
    }

    private static void readings() {
        Check.promise(10);
        BlessedPins x = new BlessedPins();
        x.net(7);
        x.net(24);
        for (int pin = 0; pin < 7; pin++) {
            if (pin != 2) {
                x.bless(pin, 1);
            }
        }
        x.fault(0, 0, 0);
        x.fault(1, 0, 1);
        x.fault(2, 0, 0);
        x.fault(3, 0, 0);
        x.fault(0, 5, 0);
        Check.due("its net", x.reads(0, NONE, 0, 1), 3);
        Check.due("driven with 0", x.reads(0, NONE, 0, 0), 0);
        Check.due("the other net", x.reads(0, NONE, 3, 1), 24);
        Check.due("a pin in no net", x.reads(0, NONE, 5, 1), 32);
        Check.due("a pin in no net, with 0", x.reads(0, NONE, 5, 0), 0);
        Check.due("a pin that is not reached", x.reads(0, NONE, 2, 1), NOT_FOUND);
        Check.due("another day", x.reads(1, NONE, 0, 1), NOT_FOUND);
        Check.due("open 0 is driven", x.reads(0, 0, 0, 1), 1);
        Check.due("open 0 is not driven", x.reads(0, 0, 1, 1), 2);
        Check.due("short", x.reads(0, 1, 0, 1), 27);
        Check.due("short, the other way", x.reads(0, 1, 4, 1), 27);
        Check.due("short, with 0", x.reads(0, 1, 4, 0), 0);
        Check.due("short, no net", x.reads(0, 1, 6, 1), 64);
        Check.due("low", x.reads(0, 2, 0, 1), 0);
        Check.due("low, another net", x.reads(0, 2, 3, 1), 24);
        Check.due("high", x.reads(0, 3, 0, 1), 3);
        Check.due("high, with 0", x.reads(0, 3, 0, 0), 3);
        Check.due("high, another net", x.reads(0, 3, 3, 1), 27);
        Check.due("high, another net with 0", x.reads(0, 3, 3, 0), 3);
        Check.due("high, no net", x.reads(0, 3, 6, 0), 3);
        Check.due("open in no net", x.reads(0, 4, 5, 1), 32);
        Check.due("cells are driven and read", cellsRead(), 16 + 1);
    }

    private static int cellsRead() {
        BlessedPins x = new BlessedPins();
        x.chip(0, 1, 16);
        x.net(17);
        x.bless(0, 1);
        x.bless(1, 1);
        return x.reads(0, NONE, 4, 1);
    }

    private static void told() {
        Check.promise(11);
        BlessedPins x = new BlessedPins();
        x.net(3);
        x.net(12);
        x.fault(0, 0, 0);
        x.fault(1, 0, 1);
        x.fault(2, 0, 0);
        x.fault(3, 1, 0);
        x.fault(0, 9, 0);
        x.bless(0, 1 + 2 + 4);
        x.bless(1, 2);
        x.bless(2, 4 + 64);
        x.bless(9, 127);
        Check.due("daysOf(0)", x.daysOf(0), 2);
        Check.due("daysOf(1)", x.daysOf(1), 4);
        Check.due("daysOf(2)", x.daysOf(2), 7);
        Check.due("daysOf(3)", x.daysOf(3), 68);
        Check.due("daysOf(4)", x.daysOf(4), 0);
        Check.promise(12);
        Check.due("alike(0, 1)", x.alike(0, 1), 127 - 2 - 4);
        Check.due("alike(1, 0)", x.alike(1, 0), 127 - 2 - 4);
        Check.due("alike(0, NONE)", x.alike(0, NONE), 125);
        Check.due("alike(NONE, 2)", x.alike(NONE, 2), 120);
        Check.due("alike(2, 3)", x.alike(2, 3), 127 - 7 - 64);
        Check.due("alike(2, 2)", x.alike(2, 2), 127);
        Check.due("alike(4, NONE)", x.alike(4, NONE), 127);
        Check.due("alike(NONE, NONE)", x.alike(NONE, NONE), 127);
        Check.due("open pins are told by what is reached", openChain(), 1);
    }

    private static int openChain() {
        BlessedPins x = chain();
        x.bless(0, 1);
        x.bless(3, 1);
        x.fault(0, 1, 0);
        return x.daysOf(0);
    }

    private static void twins() {
        Check.promise(13);
        BlessedPins x = chain();
        x.fault(0, 9, 0);
        Check.due("alone, and like no fault", x.twin(0), NONE);
        x.fault(4, 0, 0);
        Check.due("alone, and told", x.twin(1), NOT_FOUND);
        x.fault(4, 1, 0);
        x.fault(0, 10, 0);
        x.fault(0, 1, 0);
        Check.due("twin(0)", x.twin(0), 3);
        Check.due("twin(3)", x.twin(3), 0);
        Check.due("twin(1)", x.twin(1), 2);
        Check.due("twin(2)", x.twin(2), 1);
        Check.due("twin(4), the lowest", x.twin(4), 1);
        x.bless(2, 64);
        Check.due("dead 0 is no more like dead 1, but like open 1", x.twin(1), 4);
        Check.due("open 1 is like dead 0", x.twin(4), 1);
        Check.due("dead 1 is unlike on the last day alone", x.twin(2), NOT_FOUND);
    }

    private static void twinsOfTen() {
        Check.promise(13);
        BlessedPins x = new BlessedPins();
        for (int net = 0; net < 8; net++) {
            x.net(3 << 2 * net);
            x.bless(2 * net, 1);
            x.fault(2, net, 0);
        }
        x.fault(3, 0, 0);
        x.fault(0, 1, 0);
        Check.due("count(2)", x.count(2), 10);
        Check.due("no fault is no twin", x.twin(9), NONE);
        Check.due("the last net, low", x.twin(7), NOT_FOUND);
        x.undo();
        x.bless(15, 2);
        x.fault(0, 15, 0);
        Check.due("an open pin, touched alone", x.twin(9), NONE);
        x.bless(15, 1);
        Check.due("an open pin, touched with its net", x.twin(9), NOT_FOUND);
        BlessedPins y = new BlessedPins();
        for (int pin = 0; pin < 10; pin++) {
            y.fault(0, pin, 0);
        }
        Check.due("the first one's twin", y.twin(0), 1);
        Check.due("the last one's twin", y.twin(9), 0);
    }

    private static void outcomesAndLikes() {
        BlessedPins x = new BlessedPins();
        Check.promise(14);
        Check.due("none alone", x.outcomes(6), 1);
        Check.promise(15);
        Check.due("none alone", x.likes(6, NONE), 1024);
        x.net(3);
        x.net(12);
        x.fault(2, 0, 0);
        x.fault(3, 0, 0);
        x.fault(2, 1, 0);
        x.fault(0, 0, 0);
        x.fault(0, 1, 0);
        x.fault(0, 8, 0);
        x.bless(0, 3);
        x.bless(1, 2);
        x.bless(2, 4);
        Check.promise(14);
        Check.due("outcomes(0)", x.outcomes(0), 3);
        Check.due("outcomes(1)", x.outcomes(1), 4);
        Check.due("outcomes(2)", x.outcomes(2), 2);
        Check.due("outcomes(3)", x.outcomes(3), 1);
        Check.promise(15);
        Check.due("likes(0, NONE)", x.likes(0, NONE), 1024 + 4 + 8 + 16 + 32);
        Check.due("likes(0, 0)", x.likes(0, 0), 1);
        Check.due("likes(0, 5)", x.likes(0, 5), 1024 + 4 + 8 + 16 + 32);
        Check.due("likes(1, 3)", x.likes(1, 3), 8 + 16);
        Check.due("likes(2, 2)", x.likes(2, 2), 4);
        Check.due("likes(6, 1)", x.likes(6, 1), 1024 + 63);
    }

    private static void fewestDays() {
        Check.promise(16);
        BlessedPins x = new BlessedPins();
        x.net(3);
        x.net(12);
        x.net(48);
        x.fault(2, 0, 0);
        x.fault(2, 1, 0);
        x.fault(2, 2, 0);
        x.fault(0, 9, 0);
        x.bless(0, 8 + 32);
        x.bless(2, 8 + 16);
        x.bless(4, 64 + 16);
        Check.due("each told: how many", x.fewestDays(0, 0), 2);
        Check.due("each told: the lowest set", x.fewestDays(0, 1), 8 + 16);
        Check.due("each pair: how many", x.fewestDays(1, 0), 2);
        Check.due("each pair: the lowest set", x.fewestDays(1, 1), 8 + 16);
        x.fault(3, 0, 0);
        x.fault(0, 0, 0);
        x.bless(1, 2);
        Check.due("each told, with net 0 on day 1", x.fewestDays(0, 1), 2 + 16);
        x.bless(0, 2);
        Check.due("each told by days 1 and 4", x.fewestDays(0, 1), 2 + 16);
        x.bless(2, 16);
        x.bless(4, 16);
        x.bless(0, 0);
        x.bless(1, 0);
        Check.due("one day suffices", x.fewestDays(0, 1), 16);
        Check.due("one day suffices", x.fewestDays(0, 0), 1);
        x.bless(4, 0);
        x.bless(2, 0);
        Check.due("nothing is told", x.fewestDays(0, 0), 0);
        Check.due("nothing is told", x.fewestDays(1, 1), 0);
        BlessedPins y = new BlessedPins();
        y.net(3);
        y.fault(0, 0, 0);
        y.fault(2, 0, 0);
        y.bless(0, 1 + 2);
        y.bless(1, 1);
        y.fault(3, 0, 0);
        Check.due("all are told and differ on day 0", y.fewestDays(1, 1), 1);
        Check.due("each is told on day 0", y.fewestDays(0, 1), 1);
        BlessedPins w = new BlessedPins();
        w.net(3);
        w.fault(0, 0, 0);
        w.fault(2, 0, 0);
        w.bless(0, 2 + 4);
        w.bless(1, 4 + 8);
        Check.due("each is told on day 2", w.fewestDays(0, 1), 4);
        w.fault(0, 1, 0);
        Check.due("and two open ones are alike there", w.fewestDays(1, 1), 4);
        w.bless(0, 2);
        w.bless(1, 8);
        Check.due("low alone is told", w.fewestDays(0, 1), 2);
        BlessedPins v = new BlessedPins();
        v.net(3);
        v.fault(2, 0, 0);
        v.fault(3, 0, 0);
        v.net(12);
        v.fault(2, 1, 0);
        v.bless(0, 2 + 4);
        v.bless(2, 4 + 8);
        v.fault(0, 4, 0);
        Check.due("told and unlike on day 2", v.fewestDays(1, 1), 4);
        fewestDaysDiffer();
        BlessedPins z = new BlessedPins();
        for (int net = 0; net < 7; net++) {
            z.net(3 << 2 * net);
            z.fault(2, net, 0);
            z.bless(2 * net, 1 << net);
        }
        Check.due("all seven", z.fewestDays(0, 1), 127);
        Check.due("all seven", z.fewestDays(0, 0), 7);
        Check.due("all seven for pairs", z.fewestDays(1, 0), 7);
    }

    /** The faults 0 and 1 are told on day 0, where they look alike; on day 3 1 is told, but 0 is not. */
    private static void fewestDaysDiffer() {
        BlessedPins x = chain();
        x.bless(0, 1);
        x.bless(3, 1);
        x.fault(4, 0, 0);
        x.fault(2, 0, 0);
        x.bless(1, 8);
        Check.due("day 0 tells both", x.fewestDays(0, 1), 1);
        Check.due("day 0 tells both", x.fewestDays(0, 0), 1);
        Check.due("but from each other on day 3 alone", x.fewestDays(1, 1), 1 + 8);
        Check.due("but from each other on day 3 alone", x.fewestDays(1, 0), 2);
        BlessedPins y = new BlessedPins();
        for (int net = 0; net < 5; net++) {
            y.net(3 << 2 * net);
            y.fault(2, net, 0);
            y.fault(3, net, 0);
            y.bless(2 * net, 1 << net);
        }
        Check.due("ten faults are told", y.fewestDays(0, 1), 31);
        Check.due("ten faults are unlike", y.fewestDays(1, 1), 31);
        Check.due("outcomes(4)", y.outcomes(4), 3);
        Check.due("likes(4, 9)", y.likes(4, 9), 512);
        Check.due("likes(4, 7)", y.likes(4, 7), 1024 + 255);
    }

    private static void wanted() {
        Check.promise(17);
        BlessedPins x = chain();
        x.fault(0, 9, 0);
        x.fault(4, 0, 0);
        x.fault(0, 1, 0);
        x.fault(2, 0, 0);
        Check.due("never", x.wanted(0, 0, 0), NOT_FOUND);
        Check.due("never", x.wanted(0, 0, 1), NOT_FOUND);
        Check.due("told already", x.wanted(1, 0, 0), 0);
        Check.due("told already", x.wanted(1, 0, 1), 0);
        x.bless(3, 0);
        Check.due("one pin", x.wanted(1, 0, 0), 1);
        Check.due("the lowest", x.wanted(1, 0, 1), 2);
        x.bless(0, 0);
        Check.due("two pins", x.wanted(1, 0, 0), 2);
        Check.due("the lowest", x.wanted(1, 0, 1), 3);
        Check.due("open: two pins", x.wanted(2, 0, 1), 6);
        Check.due("low: one pin", x.wanted(3, 0, 1), 2);
        Check.due("the other days as well", x.wanted(3, 6, 1), 2);
        BlessedPins y = new BlessedPins();
        y.net(1 + 2048);
        y.net(6);
        y.fault(1, 0, 1);
        Check.due("lowest set, not lowest pin", y.wanted(0, 3, 1), 3);
        y.bless(11, 8);
        Check.due("with a blessed one", y.wanted(0, 3, 1), 2);
        Check.due("with a blessed one, other day", y.wanted(0, 4, 1), 3);
    }

    private static void shares() {
        Check.promise(18);
        BlessedPins x = new BlessedPins();
        Check.due("without faults", x.share(0), Float.floatToIntBits(1f));
        for (int net = 0; net < 5; net++) {
            x.net(3 << 2 * net);
            x.bless(2 * net, 127 & 254 << net);
        }
        int faults = 0;
        for (int kind = 2; kind <= 3; kind++) {
            for (int net = 0; net < 5; net++) {
                x.fault(kind, net, 0);
                faults++;
                for (int day = 0; day < 6; day++) {
                    int told = kind == 2 ? Math.min(day, net + 1) : Math.min(day, 5) + Math.min(day, net + 1);
                    Check.due("share of " + told + " / " + faults, x.share(day),
                            Float.floatToIntBits((float) told / (float) faults));
                }
            }
        }
    }

    private static void vouchersDoNotCount() {
        Check.promise(8);
        BlessedPins x = new BlessedPins();
        x.net(3);
        x.fault(2, 0, 0);
        x.vouch(0);
        Check.due("reached(0, NONE)", x.reached(0, NONE), 0);
        Check.due("reads", x.reads(0, NONE, 0, 1), NOT_FOUND);
        Check.due("daysOf(0)", x.daysOf(0), 0);
        Check.due("wanted(0, 0, 1)", x.wanted(0, 0, 1), 1);
        Check.due("share(0)", x.share(0), 0);
        Check.due("outcomes(0)", x.outcomes(0), 1);
        Check.due("count(7)", x.count(7), 1);
    }

    /** Each answer is of the board as it is now, whatever was asked before. */
    private static void boardOfNow() {
        BlessedPins x = new BlessedPins();
        x.net(3);
        x.fault(2, 0, 0);
        x.fault(0, 0, 0);
        Check.promise(12);
        Check.due("alike(0, NONE) before", x.alike(0, NONE), 127);
        x.bless(0, 1);
        Check.due("alike(0, NONE)", x.alike(0, NONE), 126);
        x.bless(0, 2);
        Check.promise(11);
        Check.due("daysOf(0)", x.daysOf(0), 2);
        x.bless(0, 0);
        Check.promise(13);
        Check.due("twin(0)", x.twin(0), 1);
        x.bless(0, 4);
        Check.promise(14);
        Check.due("outcomes(2)", x.outcomes(2), 2);
        x.bless(0, 8);
        Check.promise(15);
        Check.due("likes(3, 0)", x.likes(3, 0), 1);
        x.bless(0, 16);
        Check.promise(16);
        Check.due("fewestDays(0, 1)", x.fewestDays(0, 1), 16);
        x.bless(0, 32);
        Check.promise(17);
        Check.due("wanted(0, 5, 0)", x.wanted(0, 5, 0), 0);
        Check.promise(18);
        Check.due("share(5)", x.share(5), Float.floatToIntBits(0.5f));
        x.plant(0);
        x.bless(0, 64);
        Check.promise(25);
        Check.due("bestDay(0)", x.bestDay(0), 6);
    }

    private static void wrongArguments() {
        BlessedPins x = new BlessedPins();
        x.net(3);
        x.fault(0, 0, 0);
        int[] wrongDays = {-1, 7, Integer.MAX_VALUE, Integer.MIN_VALUE};
        for (int day : wrongDays) {
            Check.promise(8);
            Check.due("reached", x.reached(day, NONE), INVALID);
            Check.promise(9);
            Check.due("scanned", x.scanned(day, NONE), INVALID);
            Check.promise(10);
            Check.due("reads", x.reads(day, NONE, 0, 0), INVALID);
            Check.promise(14);
            Check.due("outcomes", x.outcomes(day), INVALID);
            Check.promise(15);
            Check.due("likes", x.likes(day, NONE), INVALID);
            Check.promise(17);
            Check.due("wanted", x.wanted(0, day, 0), INVALID);
            Check.promise(18);
            Check.due("share", x.share(day), INVALID);
        }
        int[] wrongFaults = {-2, 1, 10, Integer.MAX_VALUE, Integer.MIN_VALUE};
        for (int fault : wrongFaults) {
            Check.promise(8);
            Check.due("reached", x.reached(0, fault), INVALID);
            Check.promise(9);
            Check.due("scanned", x.scanned(0, fault), INVALID);
            Check.promise(10);
            Check.due("reads", x.reads(0, fault, 0, 0), INVALID);
            Check.promise(11);
            Check.due("daysOf", x.daysOf(fault), INVALID);
            Check.promise(12);
            Check.due("alike", x.alike(fault, 0), INVALID);
            Check.due("alike", x.alike(NONE, fault), INVALID);
            Check.promise(13);
            Check.due("twin", x.twin(fault), INVALID);
            Check.promise(15);
            Check.due("likes", x.likes(0, fault), INVALID);
            Check.promise(17);
            Check.due("wanted", x.wanted(fault, 0, 0), INVALID);
        }
        Check.promise(10);
        Check.due("reads of pin -1", x.reads(0, NONE, -1, 0), INVALID);
        Check.due("reads of pin 16", x.reads(0, NONE, 16, 0), INVALID);
        Check.due("reads with 2", x.reads(0, NONE, 0, 2), INVALID);
        Check.due("reads with -1", x.reads(0, NONE, 0, -1), INVALID);
        Check.promise(11);
        Check.due("daysOf(NONE)", x.daysOf(NONE), INVALID);
        Check.promise(13);
        Check.due("twin(NONE)", x.twin(NONE), INVALID);
        Check.promise(16);
        Check.due("fewestDays(-1, 0)", x.fewestDays(-1, 0), INVALID);
        Check.due("fewestDays(2, 0)", x.fewestDays(2, 0), INVALID);
        Check.due("fewestDays(0, -1)", x.fewestDays(0, -1), INVALID);
        Check.due("fewestDays(0, 2)", x.fewestDays(0, 2), INVALID);
        Check.promise(17);
        Check.due("wanted(NONE, 0, 0)", x.wanted(NONE, 0, 0), INVALID);
        Check.due("wanted(0, 0, 2)", x.wanted(0, 0, 2), INVALID);
        Check.due("wanted(0, 0, -1)", x.wanted(0, 0, -1), INVALID);
    }
}
