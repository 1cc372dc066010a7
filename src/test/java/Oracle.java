import java.util.ArrayDeque;
import java.util.ArrayList;
import java.util.Arrays;
import java.util.Deque;
import java.util.List;
import java.util.Set;
import java.util.TreeMap;
import java.util.TreeSet;
import java.util.regex.Matcher;
import java.util.regex.Pattern;

/**
 * The document once more, written pin by pin and with the Java library, as slow as it likes;
 * it shares nothing with the class that it is compared with.
 */
final class Oracle {
    private static final int INVALID = -1000001;
    private static final int IMPOSSIBLE = -1000002;
    private static final int LIMIT = -1000003;
    private static final int MISSING = -1000004;
    private static final int NONE = -1;

    record Chip(int entry, int exit, Set<Integer> cells) { }

    record Fault(int kind, int of, int other) { }

    private static final class World {
        List<Set<Integer>> nets = new ArrayList<>();
        List<Chip> chips = new ArrayList<>();
        List<Fault> faults = new ArrayList<>();
        int[] blessed = new int[16];
        TreeMap<Integer, Integer> drawerOf = new TreeMap<>();
        int day = 0;
        int planted = NONE;
        Set<Integer> suspects = new TreeSet<>(List.of(NONE));
        int vouchers = 3;
        Set<Integer> vouched = new TreeSet<>();
        int tests = 0;

        World copy() {
            World w = new World();
            w.nets = new ArrayList<>(nets);
            w.chips = new ArrayList<>(chips);
            w.faults = new ArrayList<>(faults);
            w.blessed = blessed.clone();
            w.drawerOf = new TreeMap<>(drawerOf);
            w.day = day;
            w.planted = planted;
            w.suspects = new TreeSet<>(suspects);
            w.vouchers = vouchers;
            w.vouched = new TreeSet<>(vouched);
            w.tests = tests;
            return w;
        }
    }

    private World w = new World();
    private final Deque<World> history = new ArrayDeque<>();
    private String text = "";

    private void change() {
        history.addLast(w.copy());
        if (history.size() == 5) {
            history.removeFirst();
        }
    }

    private static Set<Integer> setOf(int bits) {
        Set<Integer> set = new TreeSet<>();
        for (int i = 0; i < 31; i++) {
            if ((bits >> i) % 2 == 1) {
                set.add(i);
            }
        }
        return set;
    }

    private static int bits(Set<Integer> set) {
        int bits = 0;
        for (int i : set) {
            bits |= 1 << (i == NONE ? 10 : i);
        }
        return bits;
    }

    // ---- the board

    private static int netError(World w, int pins) {
        if (pins < 0 || pins > 65535 || setOf(pins).size() < 2 || setOf(pins).size() > 5) {
            return INVALID;
        }
        for (int pin : setOf(pins)) {
            if (netOf(w, pin) != NONE) {
                return IMPOSSIBLE;
            }
        }
        return w.nets.size() == 8 ? LIMIT : 0;
    }

    private static int chipError(World w, int entry, int exit, int cells) {
        if (entry < 0 || entry > 15 || exit < 0 || exit > 15 || cells < 0 || cells > 65535) {
            return INVALID;
        }
        Set<Integer> pins = setOf(cells);
        if (pins.size() > 5 || entry == exit || pins.contains(entry) || pins.contains(exit)) {
            return INVALID;
        }
        pins.add(entry);
        pins.add(exit);
        for (int pin : pins) {
            if (chipOf(w, pin) != NONE) {
                return IMPOSSIBLE;
            }
        }
        return w.chips.size() == 5 ? LIMIT : 0;
    }

    private static int faultError(World w, int kind, int of, int other) {
        int[] limits = {16, w.nets.size(), w.nets.size(), w.nets.size(), w.chips.size()};
        if (kind < 0 || kind > 4 || of < 0 || of >= limits[kind]) {
            return INVALID;
        }
        if (kind == 1 && (other <= of || other >= w.nets.size()) || kind != 1 && other != 0) {
            return INVALID;
        }
        if (w.faults.contains(new Fault(kind, of, other))) {
            return IMPOSSIBLE;
        }
        return w.faults.size() == 10 ? LIMIT : 0;
    }

    int net(int pins) {
        int error = netError(w, pins);
        if (error != 0) {
            return error;
        }
        change();
        w.nets.add(setOf(pins));
        return w.nets.size() - 1;
    }

    int chip(int entry, int exit, int cells) {
        int error = chipError(w, entry, exit, cells);
        if (error != 0) {
            return error;
        }
        change();
        w.chips.add(new Chip(entry, exit, setOf(cells)));
        return w.chips.size() - 1;
    }

    int fault(int kind, int of, int other) {
        int error = faultError(w, kind, of, other);
        if (error != 0) {
            return error;
        }
        change();
        w.faults.add(new Fault(kind, of, other));
        return w.faults.size() - 1;
    }

    int bless(int pin, int days) {
        if (pin < 0 || pin > 15 || days < 0 || days > 127) {
            return INVALID;
        }
        change();
        int before = w.blessed[pin];
        w.blessed[pin] = days;
        return before;
    }

    private static int netOf(World w, int pin) {
        for (int net = 0; net < w.nets.size(); net++) {
            if (w.nets.get(net).contains(pin)) {
                return net;
            }
        }
        return NONE;
    }

    private static int chipOf(World w, int pin) {
        for (int i = 0; i < w.chips.size(); i++) {
            Chip chip = w.chips.get(i);
            if (chip.entry == pin || chip.exit == pin || chip.cells.contains(pin)) {
                return i;
            }
        }
        return NONE;
    }

    int pinOf(int pin, int what) {
        if (pin < 0 || pin > 15 || what < 0 || what > 4) {
            return INVALID;
        }
        int chip = chipOf(w, pin);
        if (what == 0) {
            return netOf(w, pin) == NONE ? MISSING : netOf(w, pin);
        }
        if (what == 1) {
            return chip == NONE ? MISSING : chip;
        }
        if (what == 2) {
            return chip == NONE ? MISSING
                    : w.chips.get(chip).entry == pin ? 0 : w.chips.get(chip).exit == pin ? 1 : 2;
        }
        return what == 3 ? w.blessed[pin] : touched().contains(pin) ? 1 : 0;
    }

    int faultOf(int fault, int what) {
        if (fault < 0 || fault >= w.faults.size() || what < 0 || what > 3) {
            return INVALID;
        }
        Fault f = w.faults.get(fault);
        if (what == 2) {
            return f.kind == 1 ? f.other : MISSING;
        }
        if (what == 3) {
            return w.drawerOf.getOrDefault(fault, MISSING);
        }
        return what == 0 ? f.kind : f.of;
    }

    // ---- touching, scanning and measuring

    private Set<Integer> blessedOn(int day) {
        Set<Integer> pins = new TreeSet<>();
        for (int pin = 0; pin < 16; pin++) {
            if ((w.blessed[pin] >> day) % 2 == 1) {
                pins.add(pin);
            }
        }
        return pins;
    }

    private Set<Integer> touched() {
        Set<Integer> pins = blessedOn(w.day % 7);
        pins.addAll(w.vouched);
        return pins;
    }

    private boolean is(int fault, int kind, int of) {
        return fault != NONE && w.faults.get(fault).kind == kind && w.faults.get(fault).of == of;
    }

    private boolean linked(int fault, int exit, int entry) {
        int net = netOf(w, exit);
        return net != NONE && net == netOf(w, entry) && !is(fault, 0, exit) && !is(fault, 0, entry)
                && !is(fault, 2, net) && !is(fault, 3, net);
    }

    private boolean isFed(int fault, Set<Integer> touched, int chip, int deep) {
        if (is(fault, 4, chip) || deep > 6) {
            return false;
        }
        int entry = w.chips.get(chip).entry;
        boolean fed = touched.contains(entry);
        for (int other = 0; other < w.chips.size() && !fed; other++) {
            fed = linked(fault, w.chips.get(other).exit, entry) && isFed(fault, touched, other, deep + 1);
        }
        return fed;
    }

    private boolean isRead(int fault, Set<Integer> touched, int chip, int deep) {
        if (is(fault, 4, chip) || deep > 6) {
            return false;
        }
        int exit = w.chips.get(chip).exit;
        boolean read = touched.contains(exit);
        for (int other = 0; other < w.chips.size() && !read; other++) {
            read = linked(fault, exit, w.chips.get(other).entry) && isRead(fault, touched, other, deep + 1);
        }
        return read;
    }

    private Set<Integer> scannedBy(Set<Integer> touched, int fault) {
        Set<Integer> chips = new TreeSet<>();
        for (int chip = 0; chip < w.chips.size(); chip++) {
            if (isFed(fault, touched, chip, 0) && isRead(fault, touched, chip, 0)) {
                chips.add(chip);
            }
        }
        return chips;
    }

    private Set<Integer> reachedBy(Set<Integer> touched, int fault) {
        Set<Integer> pins = new TreeSet<>(touched);
        for (int chip : scannedBy(touched, fault)) {
            pins.addAll(w.chips.get(chip).cells);
        }
        return pins;
    }

    private boolean asOne(int fault, int net, int other) {
        if (net == other) {
            return true;
        }
        return fault != NONE && w.faults.get(fault).equals(new Fault(1, Math.min(net, other), Math.max(net, other)));
    }

    private int readAt(int fault, int pin, int driven, int value) {
        int net = netOf(w, pin);
        if (net == NONE || is(fault, 0, pin)) {
            return pin == driven ? value : 0;
        }
        if (is(fault, 2, net)) {
            return 0;
        }
        if (is(fault, 3, net)) {
            return 1;
        }
        int from = netOf(w, driven);
        return from != NONE && asOne(fault, from, net) && !is(fault, 0, driven) ? value : 0;
    }

    private int readsBy(Set<Integer> reached, int fault, int driven, int value) {
        int bits = 0;
        for (int pin : reached) {
            bits |= readAt(fault, pin, driven, value) << pin;
        }
        return bits;
    }

    private List<Integer> outcome(Set<Integer> touched, int fault) {
        Set<Integer> reached = reachedBy(touched, fault);
        List<Integer> outcome = new ArrayList<>(List.of(bits(reached)));
        for (int pin : reached) {
            outcome.add(readsBy(reached, fault, pin, 0));
            outcome.add(readsBy(reached, fault, pin, 1));
        }
        return outcome;
    }

    private boolean same(Set<Integer> touched, int one, int other) {
        return outcome(touched, one).equals(outcome(touched, other));
    }

    // ---- days of the week

    private boolean wrongDay(int day) {
        return day < 0 || day > 6;
    }

    private boolean wrongFault(int fault) {
        return fault < 0 || fault >= w.faults.size();
    }

    private boolean wrongSuspect(int fault) {
        return fault != NONE && wrongFault(fault);
    }

    private List<Integer> everyone() {
        List<Integer> all = new ArrayList<>();
        for (int fault = NONE; fault < w.faults.size(); fault++) {
            all.add(fault);
        }
        return all;
    }

    int reached(int day, int fault) {
        return wrongDay(day) || wrongSuspect(fault) ? INVALID : bits(reachedBy(blessedOn(day), fault));
    }

    int scanned(int day, int fault) {
        return wrongDay(day) || wrongSuspect(fault) ? INVALID : bits(scannedBy(blessedOn(day), fault));
    }

    int reads(int day, int fault, int pin, int value) {
        if (wrongDay(day) || wrongSuspect(fault) || pin < 0 || pin > 15 || value < 0 || value > 1) {
            return INVALID;
        }
        Set<Integer> reached = reachedBy(blessedOn(day), fault);
        return reached.contains(pin) ? readsBy(reached, fault, pin, value) : MISSING;
    }

    int daysOf(int fault) {
        return wrongFault(fault) ? INVALID : 127 - alike(fault, NONE);
    }

    int alike(int one, int other) {
        if (wrongSuspect(one) || wrongSuspect(other)) {
            return INVALID;
        }
        int days = 0;
        for (int day = 0; day < 7; day++) {
            days += same(blessedOn(day), one, other) ? 1 << day : 0;
        }
        return days;
    }

    int twin(int fault) {
        if (wrongFault(fault)) {
            return INVALID;
        }
        for (int other = 0; other < w.faults.size(); other++) {
            if (other != fault && alike(fault, other) == 127) {
                return other;
            }
        }
        return daysOf(fault) == 0 ? NONE : MISSING;
    }

    int outcomes(int day) {
        if (wrongDay(day)) {
            return INVALID;
        }
        List<List<Integer>> seen = new ArrayList<>();
        for (int fault : everyone()) {
            List<Integer> outcome = outcome(blessedOn(day), fault);
            if (!seen.contains(outcome)) {
                seen.add(outcome);
            }
        }
        return seen.size();
    }

    int likes(int day, int fault) {
        if (wrongDay(day) || wrongSuspect(fault)) {
            return INVALID;
        }
        Set<Integer> like = new TreeSet<>(everyone());
        like.removeIf(other -> !same(blessedOn(day), fault, other));
        return bits(like);
    }

    int fewestDays(int what, int which) {
        if (what < 0 || what > 1 || which < 0 || which > 1) {
            return INVALID;
        }
        List<Integer> needs = new ArrayList<>();
        for (int one : everyone()) {
            for (int other : everyone()) {
                if (one < other && (what == 1 || one == NONE)) {
                    needs.add(127 - alike(one, other));
                }
            }
        }
        for (int many = 0; many <= 7; many++) {
            for (int set = 0; set < 128; set++) {
                int days = set;
                if (setOf(set).size() == many && needs.stream().allMatch(need -> need == 0 || (need & days) != 0)) {
                    return which == 0 ? many : set;
                }
            }
        }
        throw new IllegalStateException("seven days always do");
    }

    int wanted(int fault, int day, int which) {
        if (wrongFault(fault) || wrongDay(day) || which < 0 || which > 1) {
            return INVALID;
        }
        for (int many = 0; many <= 2; many++) {
            for (int set = 0; set < 65536; set++) {
                if (Integer.bitCount(set) != many) {
                    continue;
                }
                Set<Integer> touched = blessedOn(day);
                Set<Integer> more = setOf(set);
                if (touched.removeAll(more)) {
                    continue;
                }
                touched.addAll(more);
                if (!same(touched, fault, NONE)) {
                    return which == 0 ? many : set;
                }
            }
        }
        return MISSING;
    }

    int share(int day) {
        if (wrongDay(day)) {
            return INVALID;
        }
        int told = 0;
        for (int fault = 0; fault < w.faults.size(); fault++) {
            told += same(blessedOn(day), fault, NONE) ? 0 : 1;
        }
        return Float.floatToIntBits(w.faults.isEmpty() ? 1f : (float) told / (float) w.faults.size());
    }

    // ---- testing

    int plant(int fault) {
        if (wrongSuspect(fault)) {
            return INVALID;
        }
        change();
        w.planted = fault;
        w.suspects = new TreeSet<>(everyone());
        return w.suspects.size();
    }

    int test() {
        change();
        w.tests++;
        w.suspects.removeIf(suspect -> !same(touched(), suspect, w.planted));
        return w.suspects.size();
    }

    int vouch(int pin) {
        if (pin < 0 || pin > 15) {
            return INVALID;
        }
        if (touched().contains(pin)) {
            return IMPOSSIBLE;
        }
        if (w.vouchers == 0) {
            return LIMIT;
        }
        change();
        w.vouched.add(pin);
        return --w.vouchers;
    }

    int vouchers(int many) {
        if (many < 0 || many > 20) {
            return INVALID;
        }
        change();
        int before = w.vouchers;
        w.vouchers = many;
        return before;
    }

    int pass(int days) {
        if (days < 1 || days > 60) {
            return INVALID;
        }
        if (w.day + days > 10000) {
            return LIMIT;
        }
        change();
        w.day += days;
        w.vouched.clear();
        return w.day % 7;
    }

    int suspects() {
        return bits(w.suspects);
    }

    int bestDay(int which) {
        if (which < 0 || which > 1) {
            return INVALID;
        }
        int best = NONE;
        int fewest = 99;
        for (int ahead = 0; ahead < 7; ahead++) {
            int day = (w.day + ahead) % 7;
            int worst = 0;
            for (int planted : w.suspects) {
                int left = 0;
                for (int suspect : w.suspects) {
                    left += same(blessedOn(day), planted, suspect) ? 1 : 0;
                }
                worst = Math.max(worst, left);
            }
            if (worst < fewest) {
                fewest = worst;
                best = day;
            }
        }
        return which == 0 ? best : fewest;
    }

    private int inDrawer(int drawer) {
        int many = 0;
        for (int d : w.drawerOf.values()) {
            many += d == drawer ? 1 : 0;
        }
        return many;
    }

    int file(int fault, int drawer) {
        if (wrongFault(fault) || drawer < 0 || drawer > 4) {
            return INVALID;
        }
        if (w.drawerOf.containsKey(fault) || w.faults.get(fault).kind != drawer) {
            return IMPOSSIBLE;
        }
        if (inDrawer(drawer) == 3) {
            return LIMIT;
        }
        change();
        w.drawerOf.put(fault, drawer);
        return inDrawer(drawer);
    }

    int count(int what) {
        if (what < 0 || what > 15) {
            return INVALID;
        }
        int[] first = {w.nets.size(), w.chips.size(), w.faults.size(), w.day, w.day % 7, w.vouchers,
            touched().size(), reachedBy(touched(), NONE).size(), w.tests, history.size(), text.length()};
        return what < 11 ? first[what] : inDrawer(what - 11);
    }

    int undo() {
        if (history.isEmpty()) {
            return IMPOSSIBLE;
        }
        w = history.removeLast();
        return history.size();
    }

    // ---- programs

    private static final Pattern COMMAND =
            Pattern.compile(" *(net|chip|open|short|low|high|dead|bless)((?: +[0-9]{1,2})*) *");

    int type(int character) {
        if (character < 32 || character > 126) {
            return INVALID;
        }
        if (text.length() == 100) {
            return LIMIT;
        }
        text += (char) character;
        return text.length();
    }

    int clearText() {
        int before = text.length();
        text = "";
        return before;
    }

    /** 0 and the number of commands, or the reason and the position. */
    private int[] tryOn(World world) {
        int commands = 0;
        int from = 0;
        while (!text.substring(from).isBlank()) {
            int at = from;
            while (text.charAt(at) == ' ') {
                at++;
            }
            int end = text.indexOf(';', from);
            int reason = end < 0 ? 1 : reasonOf(world, text.substring(from, end));
            if (reason != 0) {
                return new int[] {reason, at};
            }
            commands++;
            from = end + 1;
        }
        return new int[] {0, commands};
    }

    private static int reasonOf(World world, String command) {
        Matcher matcher = COMMAND.matcher(command);
        if (!matcher.matches()) {
            return 1;
        }
        String word = matcher.group(1);
        List<Integer> numbers = new ArrayList<>();
        for (String number : matcher.group(2).split(" ")) {
            if (!number.isEmpty()) {
                numbers.add(Integer.parseInt(number));
            }
        }
        int least = Arrays.asList("net", "chip", "short").contains(word) ? 2 : 1;
        int most = word.equals("net") ? 5 : word.equals("chip") ? 7 : word.equals("bless") ? 8 : least;
        if (numbers.size() < least || numbers.size() > most) {
            return 1;
        }
        List<Integer> unlike = word.equals("bless") ? numbers.subList(1, numbers.size()) : numbers;
        if (new TreeSet<>(unlike).size() != unlike.size()) {
            return 1;
        }
        for (int i = 0; i < numbers.size(); i++) {
            int range = Arrays.asList("short", "low", "high").contains(word) ? world.nets.size()
                    : word.equals("dead") ? world.chips.size() : word.equals("bless") && i > 0 ? 7 : 16;
            if (numbers.get(i) >= range) {
                return 2;
            }
        }
        return obey(world, word, numbers) ? 0 : 3;
    }

    private static boolean obey(World world, String word, List<Integer> numbers) {
        int first = numbers.get(0);
        int second = numbers.size() > 1 ? numbers.get(1) : 0;
        if (word.equals("net")) {
            return netError(world, bits(new TreeSet<>(numbers))) == 0 && world.nets.add(new TreeSet<>(numbers));
        }
        if (word.equals("chip")) {
            Set<Integer> cells = new TreeSet<>(numbers.subList(2, numbers.size()));
            return chipError(world, first, second, bits(cells)) == 0
                    && world.chips.add(new Chip(first, second, cells));
        }
        if (word.equals("bless")) {
            world.blessed[first] = bits(new TreeSet<>(numbers.subList(1, numbers.size())));
            return true;
        }
        int kind = Arrays.asList("open", "short", "low", "high", "dead").indexOf(word);
        int of = kind == 1 ? Math.min(first, second) : first;
        int other = kind == 1 ? Math.max(first, second) : 0;
        return faultError(world, kind, of, other) == 0 && world.faults.add(new Fault(kind, of, other));
    }

    int place(int what) {
        if (what < 0 || what > 1) {
            return INVALID;
        }
        int[] found = tryOn(w.copy());
        return found[0] == 0 ? MISSING : found[1 - what];
    }

    int run() {
        World after = w.copy();
        int[] found = tryOn(after);
        if (found[0] != 0) {
            return IMPOSSIBLE;
        }
        change();
        w = after;
        return found[1];
    }
}
