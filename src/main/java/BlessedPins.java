import java.util.Arrays;

/** A board tester that may only touch pins which an inspector has blessed for the day. */
public final class BlessedPins {
    public static final int INVALID_ARGUMENT = -1000001;
    public static final int NOT_POSSIBLE = -1000002;
    public static final int LIMIT_REACHED = -1000003;
    public static final int NOT_FOUND = -1000004;
    public static final int NONE = -1;

    private static final int FINE = 0;

    private static final int PINS = 16;
    private static final int ALL_PINS = (1 << PINS) - 1;
    private static final int MOST_NETS = 8;
    private static final int LEAST_NET_PINS = 2;
    private static final int MOST_NET_PINS = 5;
    private static final int MOST_CHIPS = 5;
    private static final int MOST_CELLS = 5;
    private static final int MOST_FAULTS = 10;
    private static final int WEEK = 7;
    private static final int ALL_DAYS = (1 << WEEK) - 1;

    private static final int OPEN = 0;
    private static final int SHORT = 1;
    private static final int LOW = 2;
    private static final int HIGH = 3;
    private static final int DEAD = 4;
    private static final int KINDS = 5;

    /** Suspects are told by the fault's number, and the board without fault by this one. */
    private static final int FAULTLESS = 10;
    private static final int SUSPECTS = 11;
    private static final int SUSPECT_PAIRS = SUSPECTS * (SUSPECTS - 1) / 2;

    private static final int ENTRY = 0;
    private static final int EXIT = 1;
    private static final int CELL = 2;

    private static final int VOUCHERS_AT_FIRST = 3;
    private static final int MOST_VOUCHERS = 20;
    private static final int MOST_DAYS_AT_ONCE = 60;
    private static final int LAST_DAY = 10000;
    private static final int DRAWER_PLACES = 3;
    private static final int MOST_STATES = 4;
    private static final int FIRST_CHARACTER = 32;
    private static final int LAST_CHARACTER = 126;
    private static final int MOST_CHARACTERS = 100;

    private final State state;
    private final Meter meter;
    private final History history = new History();
    private final Program program = new Program();

    public BlessedPins() {
        Board board = new Board();
        state = new State(board);
        meter = new Meter(board);
    }

    // ---- the board

    public int net(int pins) {
        int refusal = state.board.refusalOfNet(pins);
        if (refusal != FINE) {
            return refusal;
        }
        history.keep(state);
        return state.board.addNet(pins);
    }

    public int chip(int entry, int exit, int cells) {
        int refusal = state.board.refusalOfChip(entry, exit, cells);
        if (refusal != FINE) {
            return refusal;
        }
        history.keep(state);
        return state.board.addChip(entry, exit, cells);
    }

    public int fault(int kind, int of, int other) {
        int refusal = state.board.refusalOfFault(kind, of, other);
        if (refusal != FINE) {
            return refusal;
        }
        history.keep(state);
        return state.board.addFault(kind, of, other);
    }

    public int bless(int pin, int days) {
        if (!isPin(pin) || (days & ~ALL_DAYS) != 0) {
            return INVALID_ARGUMENT;
        }
        history.keep(state);
        return state.board.setBlessing(pin, days);
    }

    public int pinOf(int pin, int what) {
        if (!isPin(pin)) {
            return INVALID_ARGUMENT;
        }
        Board board = state.board;
        switch (what) {
            case 0:
                return foundOrNot(board.netOf[pin]);
            case 1:
                return foundOrNot(board.chipWith(pin));
            case 2:
                return foundOrNot(board.roleOf(pin));
            case 3:
                return board.blessed[pin];
            case 4:
                return hasBit(state.touchedNow(), pin) ? 1 : 0;
            default:
                return INVALID_ARGUMENT;
        }
    }

    public int faultOf(int fault, int what) {
        Board board = state.board;
        if (!board.isFault(fault)) {
            return INVALID_ARGUMENT;
        }
        switch (what) {
            case 0:
                return board.kinds[fault];
            case 1:
                return board.places[fault];
            case 2:
                return board.kinds[fault] == SHORT ? board.seconds[fault] : NOT_FOUND;
            case 3:
                return foundOrNot(state.drawers[fault]);
            default:
                return INVALID_ARGUMENT;
        }
    }

    // ---- days of the week, without vouchers

    public int reached(int day, int fault) {
        if (!isDay(day) || !isFaultOrNone(fault)) {
            return INVALID_ARGUMENT;
        }
        SuspectBoard supposed = meter.suppose(suspectFor(fault));
        supposed.probe(state.board.blessedOn(day));
        return supposed.inReach;
    }

    public int scanned(int day, int fault) {
        if (!isDay(day) || !isFaultOrNone(fault)) {
            return INVALID_ARGUMENT;
        }
        return meter.suppose(suspectFor(fault)).scannedChips(state.board.blessedOn(day));
    }

    public int reads(int day, int fault, int pin, int value) {
        if (!isDay(day) || !isFaultOrNone(fault) || !isPin(pin) || !isZeroOrOne(value)) {
            return INVALID_ARGUMENT;
        }
        SuspectBoard supposed = meter.suppose(suspectFor(fault));
        supposed.probe(state.board.blessedOn(day));
        return hasBit(supposed.inReach, pin) ? supposed.pinsAtOne(pin, value) : NOT_FOUND;
    }

    public int daysOf(int fault) {
        if (!state.board.isFault(fault)) {
            return INVALID_ARGUMENT;
        }
        meter.measureWeek();
        return meter.daysUnlike(fault, FAULTLESS);
    }

    public int alike(int one, int other) {
        if (!isFaultOrNone(one) || !isFaultOrNone(other)) {
            return INVALID_ARGUMENT;
        }
        meter.measureWeek();
        return meter.daysAlike(suspectFor(one), suspectFor(other));
    }

    public int twin(int fault) {
        if (!state.board.isFault(fault)) {
            return INVALID_ARGUMENT;
        }
        meter.measureWeek();
        for (int other = 0; other < state.board.faultCount; other++) {
            if (other != fault && meter.daysAlike(fault, other) == ALL_DAYS) {
                return other;
            }
        }
        return meter.daysAlike(fault, FAULTLESS) == ALL_DAYS ? NONE : NOT_FOUND;
    }

    public int outcomes(int day) {
        if (!isDay(day)) {
            return INVALID_ARGUMENT;
        }
        meter.measureWeek();
        return meter.unlikeOutcomes(day);
    }

    public int likes(int day, int fault) {
        if (!isDay(day) || !isFaultOrNone(fault)) {
            return INVALID_ARGUMENT;
        }
        meter.measureWeek();
        return meter.suspectsLike(day, suspectFor(fault));
    }

    public int fewestDays(int what, int which) {
        if (!isZeroOrOne(what) || !isZeroOrOne(which)) {
            return INVALID_ARGUMENT;
        }
        meter.measureWeek();
        return sizeOrSet(meter.fewestDaysFor(what == 1), which);
    }

    public int wanted(int fault, int day, int which) {
        if (!state.board.isFault(fault) || !isDay(day) || !isZeroOrOne(which)) {
            return INVALID_ARGUMENT;
        }
        int pins = meter.fewestPinsTelling(state.board.blessedOn(day), fault);
        return pins == NONE ? NOT_FOUND : sizeOrSet(pins, which);
    }

    public int share(int day) {
        if (!isDay(day)) {
            return INVALID_ARGUMENT;
        }
        int all = state.board.faultCount;
        if (all == 0) {
            return bitsOf(1f);
        }
        meter.measureWeek();
        int told = all - Integer.bitCount(meter.suspectsLike(day, FAULTLESS) & ~(1 << FAULTLESS));
        return bitsOf((float) told / (float) all);
    }

    // ---- testing

    public int plant(int fault) {
        if (!isFaultOrNone(fault)) {
            return INVALID_ARGUMENT;
        }
        history.keep(state);
        state.planted = suspectFor(fault);
        state.suspected = state.board.allSuspects();
        return Integer.bitCount(state.suspected);
    }

    public int test() {
        history.keep(state);
        state.tests++;
        state.suspected = meter.leftBy(state.touchedNow(), state.planted, state.suspected);
        return Integer.bitCount(state.suspected);
    }

    public int vouch(int pin) {
        if (!isPin(pin)) {
            return INVALID_ARGUMENT;
        }
        if (hasBit(state.touchedNow(), pin)) {
            return NOT_POSSIBLE;
        }
        if (state.vouchersLeft == 0) {
            return LIMIT_REACHED;
        }
        history.keep(state);
        state.vouched |= 1 << pin;
        state.vouchersLeft--;
        return state.vouchersLeft;
    }

    public int vouchers(int many) {
        if (many < 0 || many > MOST_VOUCHERS) {
            return INVALID_ARGUMENT;
        }
        history.keep(state);
        int before = state.vouchersLeft;
        state.vouchersLeft = many;
        return before;
    }

    public int pass(int days) {
        if (days < 1 || days > MOST_DAYS_AT_ONCE) {
            return INVALID_ARGUMENT;
        }
        if (state.day + days > LAST_DAY) {
            return LIMIT_REACHED;
        }
        history.keep(state);
        state.day += days;
        state.vouched = 0;
        return state.weekday();
    }

    public int suspects() {
        return state.suspected;
    }

    public int bestDay(int which) {
        if (!isZeroOrOne(which)) {
            return INVALID_ARGUMENT;
        }
        meter.measureWeek();
        int best = NONE;
        int fewest = SUSPECTS + 1;
        for (int step = 0; step < WEEK; step++) {
            int day = (state.weekday() + step) % WEEK;
            int worst = meter.worstOn(day, state.suspected);
            if (worst < fewest) {
                fewest = worst;
                best = day;
            }
        }
        return which == 0 ? best : fewest;
    }

    public int file(int fault, int drawer) {
        if (!state.board.isFault(fault) || drawer < 0 || drawer >= KINDS) {
            return INVALID_ARGUMENT;
        }
        if (state.drawers[fault] != NONE || state.board.kinds[fault] != drawer) {
            return NOT_POSSIBLE;
        }
        if (state.filedIn(drawer) >= DRAWER_PLACES) {
            return LIMIT_REACHED;
        }
        history.keep(state);
        state.drawers[fault] = drawer;
        return state.filedIn(drawer);
    }

    public int count(int what) {
        switch (what) {
            case 0:
                return state.board.netCount;
            case 1:
                return state.board.chipCount;
            case 2:
                return state.board.faultCount;
            case 3:
                return state.day;
            case 4:
                return state.weekday();
            case 5:
                return state.vouchersLeft;
            case 6:
                return Integer.bitCount(state.touchedNow());
            case 7:
                return reachedNow();
            case 8:
                return state.tests;
            case 9:
                return history.size;
            case 10:
                return program.length;
            case 11: case 12: case 13: case 14: case 15:
                return state.filedIn(what - 11);
            default:
                return INVALID_ARGUMENT;
        }
    }

    public int undo() {
        if (history.size == 0) {
            return NOT_POSSIBLE;
        }
        history.restore(state);
        return history.size;
    }

    // ---- programs

    public int type(int character) {
        if (character < FIRST_CHARACTER || character > LAST_CHARACTER) {
            return INVALID_ARGUMENT;
        }
        if (program.length >= MOST_CHARACTERS) {
            return LIMIT_REACHED;
        }
        program.append((char) character);
        return program.length;
    }

    public int clearText() {
        int before = program.length;
        program.length = 0;
        return before;
    }

    public int place(int what) {
        if (!isZeroOrOne(what)) {
            return INVALID_ARGUMENT;
        }
        program.tryOn(state.board);
        if (program.reason == FINE) {
            return NOT_FOUND;
        }
        return what == 0 ? program.faultAt : program.reason;
    }

    public int run() {
        program.tryOn(state.board);
        if (program.reason != FINE) {
            return NOT_POSSIBLE;
        }
        history.keep(state);
        state.board.copyFrom(program.trial);
        return program.commands;
    }

    // ---- helpers

    private int reachedNow() {
        SuspectBoard supposed = meter.suppose(FAULTLESS);
        supposed.probe(state.touchedNow());
        return Integer.bitCount(supposed.inReach);
    }

    private boolean isFaultOrNone(int fault) {
        return fault == NONE || state.board.isFault(fault);
    }

    private static int suspectFor(int fault) {
        return fault == NONE ? FAULTLESS : fault;
    }

    private static int foundOrNot(int number) {
        return number == NONE ? NOT_FOUND : number;
    }

    private static int sizeOrSet(int set, int which) {
        return which == 0 ? Integer.bitCount(set) : set;
    }

    private static boolean isPin(int pin) {
        return pin >= 0 && pin < PINS;
    }

    private static boolean isDay(int day) {
        return day >= 0 && day < WEEK;
    }

    private static boolean isZeroOrOne(int number) {
        return number == 0 || number == 1;
    }

    private static boolean hasBit(int set, int number) {
        return (set >> number & 1) == 1;
    }

    /** The bits of a float from 0 to 1, taken apart by doubling, which is exact in floats. */
    private static int bitsOf(float share) {
        if (share <= 0f) {
            return 0;
        }
        float scaled = share;
        int exponent = 127;
        while (scaled < 1f && exponent > 1) {
            scaled = scaled * 2f;
            exponent--;
        }
        return (exponent << 23) + (int) ((scaled - 1f) * 8388608f);
    }

    /** Nets, chips, faults and blessings: all that a program can change. */
    private static final class Board {
        final int[] nets = new int[MOST_NETS];
        final int[] netOf = new int[PINS];
        final int[] entries = new int[MOST_CHIPS];
        final int[] exits = new int[MOST_CHIPS];
        final int[] cells = new int[MOST_CHIPS];
        final int[] kinds = new int[MOST_FAULTS];
        final int[] places = new int[MOST_FAULTS];
        final int[] seconds = new int[MOST_FAULTS];
        final int[] blessed = new int[PINS];
        int netCount;
        int chipCount;
        int faultCount;
        int pinsInNets;
        int pinsOfChips;

        Board() {
            Arrays.fill(netOf, NONE);
        }

        void copyFrom(Board other) {
            System.arraycopy(other.nets, 0, nets, 0, MOST_NETS);
            System.arraycopy(other.netOf, 0, netOf, 0, PINS);
            System.arraycopy(other.entries, 0, entries, 0, MOST_CHIPS);
            System.arraycopy(other.exits, 0, exits, 0, MOST_CHIPS);
            System.arraycopy(other.cells, 0, cells, 0, MOST_CHIPS);
            System.arraycopy(other.kinds, 0, kinds, 0, MOST_FAULTS);
            System.arraycopy(other.places, 0, places, 0, MOST_FAULTS);
            System.arraycopy(other.seconds, 0, seconds, 0, MOST_FAULTS);
            System.arraycopy(other.blessed, 0, blessed, 0, PINS);
            netCount = other.netCount;
            chipCount = other.chipCount;
            faultCount = other.faultCount;
            pinsInNets = other.pinsInNets;
            pinsOfChips = other.pinsOfChips;
        }

        int refusalOfNet(int pins) {
            int many = Integer.bitCount(pins);
            if ((pins & ~ALL_PINS) != 0 || many < LEAST_NET_PINS || many > MOST_NET_PINS) {
                return INVALID_ARGUMENT;
            }
            if ((pins & pinsInNets) != 0) {
                return NOT_POSSIBLE;
            }
            return netCount >= MOST_NETS ? LIMIT_REACHED : FINE;
        }

        int addNet(int pins) {
            nets[netCount] = pins;
            pinsInNets |= pins;
            for (int pin = 0; pin < PINS; pin++) {
                if (hasBit(pins, pin)) {
                    netOf[pin] = netCount;
                }
            }
            netCount++;
            return netCount - 1;
        }

        int refusalOfChip(int entry, int exit, int cellPins) {
            if (!isPin(entry) || !isPin(exit) || entry == exit) {
                return INVALID_ARGUMENT;
            }
            if ((cellPins & ~ALL_PINS) != 0 || Integer.bitCount(cellPins) > MOST_CELLS
                    || hasBit(cellPins, entry) || hasBit(cellPins, exit)) {
                return INVALID_ARGUMENT;
            }
            if (((1 << entry | 1 << exit | cellPins) & pinsOfChips) != 0) {
                return NOT_POSSIBLE;
            }
            return chipCount >= MOST_CHIPS ? LIMIT_REACHED : FINE;
        }

        int addChip(int entry, int exit, int cellPins) {
            entries[chipCount] = entry;
            exits[chipCount] = exit;
            cells[chipCount] = cellPins;
            pinsOfChips |= 1 << entry | 1 << exit | cellPins;
            chipCount++;
            return chipCount - 1;
        }

        int refusalOfFault(int kind, int of, int other) {
            if (kind < 0 || kind >= KINDS || of < 0 || of >= placesFor(kind)) {
                return INVALID_ARGUMENT;
            }
            boolean otherFits = kind == SHORT ? other > of && other < netCount : other == 0;
            if (!otherFits) {
                return INVALID_ARGUMENT;
            }
            for (int fault = 0; fault < faultCount; fault++) {
                if (kinds[fault] == kind && places[fault] == of && seconds[fault] == other) {
                    return NOT_POSSIBLE;
                }
            }
            return faultCount >= MOST_FAULTS ? LIMIT_REACHED : FINE;
        }

        int placesFor(int kind) {
            if (kind == OPEN) {
                return PINS;
            }
            return kind == DEAD ? chipCount : netCount;
        }

        int addFault(int kind, int of, int other) {
            kinds[faultCount] = kind;
            places[faultCount] = of;
            seconds[faultCount] = other;
            faultCount++;
            return faultCount - 1;
        }

        int setBlessing(int pin, int days) {
            int before = blessed[pin];
            blessed[pin] = days;
            return before;
        }

        int blessedOn(int day) {
            int pins = 0;
            for (int pin = 0; pin < PINS; pin++) {
                if (hasBit(blessed[pin], day)) {
                    pins |= 1 << pin;
                }
            }
            return pins;
        }

        int chipWith(int pin) {
            for (int chip = 0; chip < chipCount; chip++) {
                if (entries[chip] == pin || exits[chip] == pin || hasBit(cells[chip], pin)) {
                    return chip;
                }
            }
            return NONE;
        }

        int roleOf(int pin) {
            int chip = chipWith(pin);
            if (chip == NONE) {
                return NONE;
            }
            if (entries[chip] == pin) {
                return ENTRY;
            }
            return exits[chip] == pin ? EXIT : CELL;
        }

        boolean isFault(int fault) {
            return fault >= 0 && fault < faultCount;
        }

        int allSuspects() {
            return 1 << FAULTLESS | (1 << faultCount) - 1;
        }

        /** Whether a suspect is the fault of this kind at this pin, net or chip. */
        boolean suffers(int suspect, int kind, int of) {
            return isFault(suspect) && kinds[suspect] == kind && places[suspect] == of;
        }

        /** The net that a suspect shorts with this one, or NONE. */
        int shortedWith(int suspect, int net) {
            if (!isFault(suspect) || kinds[suspect] != SHORT) {
                return NONE;
            }
            if (places[suspect] == net) {
                return seconds[suspect];
            }
            return seconds[suspect] == net ? places[suspect] : NONE;
        }
    }

    /** Everything that the history keeps. */
    private static final class State {
        final Board board;
        final int[] drawers = new int[MOST_FAULTS];
        int day;
        int planted = FAULTLESS;
        int suspected = 1 << FAULTLESS;
        int vouchersLeft = VOUCHERS_AT_FIRST;
        int vouched;
        int tests;

        State(Board board) {
            this.board = board;
            Arrays.fill(drawers, NONE);
        }

        void copyFrom(State other) {
            board.copyFrom(other.board);
            System.arraycopy(other.drawers, 0, drawers, 0, MOST_FAULTS);
            day = other.day;
            planted = other.planted;
            suspected = other.suspected;
            vouchersLeft = other.vouchersLeft;
            vouched = other.vouched;
            tests = other.tests;
        }

        int weekday() {
            return day % WEEK;
        }

        int touchedNow() {
            return board.blessedOn(weekday()) | vouched;
        }

        int filedIn(int drawer) {
            int many = 0;
            for (int fault = 0; fault < board.faultCount; fault++) {
                if (drawers[fault] == drawer) {
                    many++;
                }
            }
            return many;
        }
    }

    /** The latest states, the oldest first; their objects are used again and again. */
    private static final class History {
        final State[] states = new State[MOST_STATES];
        int size;

        History() {
            for (int i = 0; i < MOST_STATES; i++) {
                states[i] = new State(new Board());
            }
        }

        void keep(State now) {
            if (size >= MOST_STATES) {
                dropOldest();
            }
            states[size].copyFrom(now);
            size++;
        }

        void dropOldest() {
            State oldest = states[0];
            for (int i = 1; i < MOST_STATES; i++) {
                states[i - 1] = states[i];
            }
            states[MOST_STATES - 1] = oldest;
            size = MOST_STATES - 1;
        }

        void restore(State now) {
            if (size > 0) {
                size--;
                now.copyFrom(states[size]);
            }
        }
    }

    /** The board as it would be if a suspect were planted. */
    private static final class SuspectBoard {
        final Board board;
        final int suspect;
        /** For each pin the net, as a bit, by which it can be linked; 0 if there is none. */
        final int[] linking = new int[PINS];
        /** For each pin the pins, reached or not, that read 1 if it is driven with 1. */
        final int[] following = new int[PINS];
        int steady;
        int deadChips;
        int inReach;

        SuspectBoard(Board board, int suspect) {
            this.board = board;
            this.suspect = suspect;
        }

        /** To be called anew whenever the board may have changed. */
        void setUp() {
            boolean known = board.isFault(suspect);
            boolean high = known && board.kinds[suspect] == HIGH;
            boolean dead = known && board.kinds[suspect] == DEAD;
            steady = high ? board.nets[board.places[suspect]] : 0;
            deadChips = dead ? 1 << board.places[suspect] : 0;
            for (int pin = 0; pin < PINS; pin++) {
                linking[pin] = linkingNet(pin);
                following[pin] = followers(pin);
            }
        }

        int linkingNet(int pin) {
            int net = board.netOf[pin];
            if (net == NONE || board.suffers(suspect, OPEN, pin)
                    || board.suffers(suspect, LOW, net) || board.suffers(suspect, HIGH, net)) {
                return 0;
            }
            return 1 << net;
        }

        int followers(int pin) {
            int net = board.netOf[pin];
            if (net == NONE || board.suffers(suspect, OPEN, pin)) {
                return 1 << pin;
            }
            if (board.suffers(suspect, LOW, net)) {
                return 0;
            }
            int partner = board.shortedWith(suspect, net);
            int pins = partner == NONE ? board.nets[net] : board.nets[net] | board.nets[partner];
            if (board.isFault(suspect) && board.kinds[suspect] == OPEN) {
                pins &= ~(1 << board.places[suspect]);
            }
            return pins;
        }

        int scannedChips(int touched) {
            int fed = spread(touched, board.entries, board.exits);
            int read = spread(touched, board.exits, board.entries);
            return fed & read;
        }

        /**
         * The chips that are fed (near pins are entries, far ones exits) or read (the other way).
         * It starts from touched pins alone, so that chips in a ring do not feed themselves.
         */
        int spread(int touched, int[] near, int[] far) {
            int chips = 0;
            int liveNets = 0;
            for (int round = 0; round < board.chipCount; round++) {
                for (int chip = 0; chip < board.chipCount; chip++) {
                    boolean starts = hasBit(touched, near[chip]) || (linking[near[chip]] & liveNets) != 0;
                    if (starts && !hasBit(deadChips, chip)) {
                        chips |= 1 << chip;
                        liveNets |= linking[far[chip]];
                    }
                }
            }
            return chips;
        }

        /** Finds out which pins are reached; the readings and outcomes are for these. */
        void probe(int touched) {
            int chips = scannedChips(touched);
            inReach = touched;
            for (int chip = 0; chip < board.chipCount; chip++) {
                if (hasBit(chips, chip)) {
                    inReach |= board.cells[chip];
                }
            }
        }

        int pinsAtOne(int pin, int value) {
            int pins = value == 1 ? following[pin] | steady : steady;
            return pins & inReach;
        }

        boolean sameOutcome(SuspectBoard other) {
            // Whichever pin is driven with 0, the steady ones alone read 1: so one look is enough.
            if (inReach != other.inReach || (steady & inReach) != (other.steady & inReach)) {
                return false;
            }
            for (int pin = 0; pin < PINS; pin++) {
                if (hasBit(inReach, pin) && pinsAtOne(pin, 1) != other.pinsAtOne(pin, 1)) {
                    return false;
                }
            }
            return true;
        }
    }

    /** Compares the outcomes of all suspects. */
    private static final class Meter {
        final Board board;
        final SuspectBoard[] supposed = new SuspectBoard[SUSPECTS];
        /** For each day of the week and suspect the first one that looks like it, or NONE. */
        final int[][] firstLike = new int[WEEK][SUSPECTS];
        final int[] daysWanted = new int[SUSPECT_PAIRS];
        int daysWantedCount;

        Meter(Board board) {
            this.board = board;
            for (int suspect = 0; suspect < SUSPECTS; suspect++) {
                supposed[suspect] = new SuspectBoard(board, suspect);
            }
        }

        SuspectBoard suppose(int suspect) {
            supposed[suspect].setUp();
            return supposed[suspect];
        }

        void supposeAll(int suspects) {
            for (int suspect = 0; suspect < SUSPECTS; suspect++) {
                if (hasBit(suspects, suspect)) {
                    supposed[suspect].setUp();
                }
            }
        }

        void probeAll(int suspects, int touched) {
            for (int suspect = 0; suspect < SUSPECTS; suspect++) {
                if (hasBit(suspects, suspect)) {
                    supposed[suspect].probe(touched);
                }
            }
        }

        /** Those of the suspects, which have been probed, whose outcome is that of this one. */
        int probedLike(int suspect, int suspects) {
            int like = 0;
            for (int other = 0; other < SUSPECTS; other++) {
                if (hasBit(suspects, other) && supposed[suspect].sameOutcome(supposed[other])) {
                    like |= 1 << other;
                }
            }
            return like;
        }

        /** Those of the suspects that a test leaves. */
        int leftBy(int touched, int planted, int suspects) {
            supposeAll(suspects | 1 << planted);
            probeAll(suspects | 1 << planted, touched);
            return probedLike(planted, suspects);
        }

        void measureWeek() {
            int suspects = board.allSuspects();
            supposeAll(suspects);
            for (int day = 0; day < WEEK; day++) {
                probeAll(suspects, board.blessedOn(day));
                for (int suspect = 0; suspect < SUSPECTS; suspect++) {
                    firstLike[day][suspect] = hasBit(suspects, suspect)
                            ? firstProbedLike(suspect, suspects) : NONE;
                }
            }
        }

        int firstProbedLike(int suspect, int suspects) {
            for (int other = 0; other < suspect; other++) {
                if (hasBit(suspects, other) && supposed[suspect].sameOutcome(supposed[other])) {
                    return other;
                }
            }
            return suspect;
        }

        // What follows is told from the last week that was measured.

        int daysAlike(int one, int other) {
            int days = 0;
            for (int day = 0; day < WEEK; day++) {
                if (firstLike[day][one] == firstLike[day][other]) {
                    days |= 1 << day;
                }
            }
            return days;
        }

        int daysUnlike(int one, int other) {
            return ALL_DAYS & ~daysAlike(one, other);
        }

        int suspectsLike(int day, int suspect) {
            int like = 0;
            for (int other = 0; other < SUSPECTS; other++) {
                if (firstLike[day][other] == firstLike[day][suspect]) {
                    like |= 1 << other;
                }
            }
            return like;
        }

        int unlikeOutcomes(int day) {
            int many = 0;
            for (int suspect = 0; suspect < SUSPECTS; suspect++) {
                if (firstLike[day][suspect] == suspect) {
                    many++;
                }
            }
            return many;
        }

        /** How many of the suspects are left by a test on this day if the worst is planted. */
        int worstOn(int day, int suspects) {
            int worst = 0;
            for (int suspect = 0; suspect < SUSPECTS; suspect++) {
                if (hasBit(suspects, suspect)) {
                    worst = Math.max(worst, Integer.bitCount(suspectsLike(day, suspect) & suspects));
                }
            }
            return worst;
        }

        /** For any two suspects, or only for each fault and the board without fault. */
        int fewestDaysFor(boolean anyTwo) {
            collectDaysWanted(anyTwo);
            int best = ALL_DAYS;
            for (int days = 0; days < ALL_DAYS; days++) {
                if (Integer.bitCount(days) < Integer.bitCount(best) && suffice(days)) {
                    best = days;
                }
            }
            return best;
        }

        void collectDaysWanted(boolean anyTwo) {
            int suspects = board.allSuspects();
            daysWantedCount = 0;
            for (int other = 1; other < SUSPECTS; other++) {
                for (int one = 0; one < other; one++) {
                    boolean both = hasBit(suspects, one) && hasBit(suspects, other);
                    if (both && (anyTwo || other == FAULTLESS)) {
                        daysWanted[daysWantedCount] = daysUnlike(one, other);
                        daysWantedCount++;
                    }
                }
            }
        }

        boolean suffice(int days) {
            for (int i = 0; i < daysWantedCount; i++) {
                if (daysWanted[i] != 0 && (daysWanted[i] & days) == 0) {
                    return false;
                }
            }
            return true;
        }

        // What follows needs no measured week.

        /** The fewest pins, 2 at most, to be touched besides; NONE if they do not suffice. */
        int fewestPinsTelling(int touched, int suspect) {
            suppose(suspect);
            suppose(FAULTLESS);
            if (tells(touched, suspect)) {
                return 0;
            }
            for (int pin = 0; pin < PINS; pin++) {
                if (tells(touched | 1 << pin, suspect)) {
                    return 1 << pin;
                }
            }
            // The higher pin goes outside: so the sets come with the lowest number first.
            for (int high = 1; high < PINS; high++) {
                for (int low = 0; low < high; low++) {
                    if (tells(touched | 1 << high | 1 << low, suspect)) {
                        return 1 << high | 1 << low;
                    }
                }
            }
            return NONE;
        }

        boolean tells(int touched, int suspect) {
            supposed[suspect].probe(touched);
            supposed[FAULTLESS].probe(touched);
            return !supposed[suspect].sameOutcome(supposed[FAULTLESS]);
        }
    }

    /** The text, and the commands that are read from it. */
    private static final class Program {
        private static final int NET_WORD = 0;
        private static final int CHIP_WORD = 1;
        private static final int OPEN_WORD = 2;
        private static final int SHORT_WORD = 3;
        private static final int LOW_WORD = 4;
        private static final int HIGH_WORD = 5;
        private static final int DEAD_WORD = 6;
        private static final int BLESS_WORD = 7;
        private static final int WORDS = 8;

        /** How many numbers follow each word. */
        private static final int[] FEWEST_NUMBERS = {2, 2, 1, 2, 1, 1, 1, 1};
        private static final int[] MOST_NUMBERS = {5, 7, 1, 2, 1, 1, 1, 8};

        private static final int WRONG_FORM = 1;
        private static final int NO_SUCH_PART = 2;
        private static final int REFUSED = 3;

        final Board trial = new Board();
        final char[] text = new char[MOST_CHARACTERS];
        final int[] numbers = new int[8];
        int length;
        int word;
        int many;
        int commands;
        int faultAt;
        int reason;

        void append(char character) {
            if (length < MOST_CHARACTERS) {
                text[length] = character;
                length++;
            }
        }

        /** Does all commands on a copy of a board, up to the first one that is not possible. */
        void tryOn(Board board) {
            trial.copyFrom(board);
            commands = 0;
            faultAt = NONE;
            reason = FINE;
            int start = skipSpaces(0, length);
            while (start < length && commands < MOST_CHARACTERS) {
                int end = endOfCommand(start);
                reason = end < length ? perform(start, end) : WRONG_FORM;
                if (reason != FINE) {
                    faultAt = start;
                    return;
                }
                commands++;
                start = skipSpaces(end + 1, length);
            }
        }

        int skipSpaces(int from, int end) {
            int at = from;
            while (at < end && text[at] == ' ') {
                at++;
            }
            return at;
        }

        int endOfCommand(int from) {
            int at = from;
            while (at < length && text[at] != ';') {
                at++;
            }
            return at;
        }

        int endOfToken(int from, int end) {
            int at = from;
            while (at < end && text[at] != ' ') {
                at++;
            }
            return at;
        }

        int perform(int start, int end) {
            if (!parse(start, end)) {
                return WRONG_FORM;
            }
            for (int i = 0; i < many; i++) {
                if (numbers[i] >= rangeOfNumber(i)) {
                    return NO_SUCH_PART;
                }
            }
            return doCommand() == FINE ? FINE : REFUSED;
        }

        boolean parse(int start, int end) {
            int stop = endOfToken(start, end);
            word = wordBetween(start, stop);
            if (word == NONE) {
                return false;
            }
            int at = skipSpaces(stop, end);
            for (many = 0; many < MOST_NUMBERS[word] && at < end; many++) {
                stop = endOfToken(at, end);
                numbers[many] = numberBetween(at, stop);
                if (numbers[many] == NONE) {
                    return false;
                }
                at = skipSpaces(stop, end);
            }
            return at >= end && many >= FEWEST_NUMBERS[word] && areUnlike();
        }

        int wordBetween(int start, int end) {
            for (int i = 0; i < WORDS; i++) {
                if (isWritten(spelling(i), start, end)) {
                    return i;
                }
            }
            return NONE;
        }

        static String spelling(int word) {
            switch (word) {
                case NET_WORD:
                    return "net";
                case CHIP_WORD:
                    return "chip";
                case OPEN_WORD:
                    return "open";
                case SHORT_WORD:
                    return "short";
                case LOW_WORD:
                    return "low";
                case HIGH_WORD:
                    return "high";
                case DEAD_WORD:
                    return "dead";
                default:
                    return "bless";
            }
        }

        boolean isWritten(String spelled, int start, int end) {
            if (spelled.length() != end - start) {
                return false;
            }
            for (int i = 0; i < spelled.length(); i++) {
                if (spelled.charAt(i) != text[start + i]) {
                    return false;
                }
            }
            return true;
        }

        int numberBetween(int start, int end) {
            int digits = end - start;
            if (digits < 1 || digits > 2) {
                return NONE;
            }
            int number = 0;
            for (int i = start; i < end; i++) {
                if (text[i] < '0' || text[i] > '9') {
                    return NONE;
                }
                number = number * 10 + (text[i] - '0');
            }
            return number;
        }

        /** A pin may have the number of a day on which it is blessed; all else must differ. */
        boolean areUnlike() {
            int first = word == BLESS_WORD ? 1 : 0;
            for (int i = first; i < many; i++) {
                for (int j = i + 1; j < many; j++) {
                    if (numbers[i] == numbers[j]) {
                        return false;
                    }
                }
            }
            return true;
        }

        int rangeOfNumber(int index) {
            switch (word) {
                case SHORT_WORD:
                case LOW_WORD:
                case HIGH_WORD:
                    return trial.netCount;
                case DEAD_WORD:
                    return trial.chipCount;
                case BLESS_WORD:
                    return index == 0 ? PINS : WEEK;
                default:
                    return PINS;
            }
        }

        int doCommand() {
            switch (word) {
                case NET_WORD:
                    return doNet();
                case CHIP_WORD:
                    return doChip();
                case OPEN_WORD:
                    return doFault(OPEN, numbers[0], 0);
                case SHORT_WORD:
                    return doFault(SHORT, Math.min(numbers[0], numbers[1]),
                            Math.max(numbers[0], numbers[1]));
                case LOW_WORD:
                    return doFault(LOW, numbers[0], 0);
                case HIGH_WORD:
                    return doFault(HIGH, numbers[0], 0);
                case DEAD_WORD:
                    return doFault(DEAD, numbers[0], 0);
                default:
                    trial.setBlessing(numbers[0], setFrom(1));
                    return FINE;
            }
        }

        int doNet() {
            int pins = setFrom(0);
            int refusal = trial.refusalOfNet(pins);
            if (refusal == FINE) {
                trial.addNet(pins);
            }
            return refusal;
        }

        int doChip() {
            int cellPins = setFrom(2);
            int refusal = trial.refusalOfChip(numbers[0], numbers[1], cellPins);
            if (refusal == FINE) {
                trial.addChip(numbers[0], numbers[1], cellPins);
            }
            return refusal;
        }

        int doFault(int kind, int of, int other) {
            int refusal = trial.refusalOfFault(kind, of, other);
            if (refusal == FINE) {
                trial.addFault(kind, of, other);
            }
            return refusal;
        }

        int setFrom(int first) {
            int set = 0;
            for (int i = first; i < many; i++) {
                set |= 1 << numbers[i];
            }
            return set;
        }
    }
}
