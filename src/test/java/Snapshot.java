/** All that an object tells of its state, as one text; the object's history is used up by it. */
final class Snapshot {
    private static final int COUNTS = 16;
    private static final int MOST_STATES = 4;

    private Snapshot() {
    }

    /** It takes some 260 of the object's 512 calls. */
    static String of(BlessedPins x) {
        StringBuilder all = new StringBuilder("now:");
        for (int pin = 0; pin < 16; pin++) {
            for (int what = 0; what <= 4; what++) {
                tell(all, x.pinOf(pin, what));
            }
        }
        all.append(" faults:");
        int faults = x.count(2);
        for (int fault = 0; fault < faults; fault++) {
            for (int what = 0; what <= 3; what++) {
                tell(all, x.faultOf(fault, what));
            }
        }
        all.append(" week:");
        for (int day = 0; day < 7; day++) {
            tell(all, x.reached(day, BlessedPins.NONE));
            tell(all, x.outcomes(day));
        }
        all.append(" text:");
        tell(all, x.place(0));
        tell(all, x.place(1));
        state(all, x);
        for (int i = 0; i <= MOST_STATES && x.undo() >= 0; i++) {
            all.append(" before:");
            state(all, x);
        }
        return all.toString();
    }

    private static void state(StringBuilder all, BlessedPins x) {
        for (int what = 0; what < COUNTS; what++) {
            tell(all, x.count(what));
        }
        tell(all, x.suspects());
        // A test shows what is planted, but would drop the oldest of four states.
        if (x.count(9) < MOST_STATES) {
            tell(all, x.test());
            tell(all, x.suspects());
            x.undo();
        }
    }

    private static void tell(StringBuilder all, int number) {
        all.append(' ').append(number);
    }
}
