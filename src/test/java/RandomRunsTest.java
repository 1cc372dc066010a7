/** Long runs of calls, the same each time, in which the class and the oracle have to agree. */
public final class RandomRunsTest {
    private static final int RUNS = 600;
    /** Behind these an object's answers are free. */
    private static final int CALLS = 512;
    private static final int METHODS = 31;
    private static final int[] ODD = {-1, -2, 7, 10, 16, 127, 128, 65536, Integer.MAX_VALUE, Integer.MIN_VALUE};
    private static final String[] WORDS = {"net", "chip", "open", "short", "low", "high", "dead", "bless"};

    private final BlessedPins x = new BlessedPins();
    private final Oracle o = new Oracle();
    private final StringBuilder log = new StringBuilder();
    private long seed;
    private int calls;

    private RandomRunsTest(long seed) {
        this.seed = seed;
    }

    public static void main(String[] args) {
        for (int run = 0; run < RUNS; run++) {
            RandomRunsTest test = new RandomRunsTest(run * 7919L + 17);
            if (!test.agrees(run)) {
                break;
            }
        }
        Check.finish("RandomRunsTest");
    }

    private int below(int bound) {
        seed = seed * 6364136223846793005L + 1442695040888963407L;
        return (int) ((seed >>> 33) % bound);
    }

    /** Mostly a number below the bound, at times one that is not. */
    private int about(int bound) {
        return below(25) == 0 ? ODD[below(ODD.length)] : below(bound);
    }

    private int suspect() {
        return below(3) == 0 ? -1 : about(Math.max(1, o.count(2)));
    }

    private int someOf(int range, int many) {
        int set = 0;
        for (int i = 0; i < many; i++) {
            set |= 1 << below(range);
        }
        return set;
    }

    private boolean agrees(int run) {
        int building = 20 + below(60);
        while (calls < CALLS) {
            int method = calls < building && below(3) > 0 ? below(4) : below(METHODS);
            int a = 0;
            int b = 0;
            int c = 0;
            int d = 0;
            switch (method) {
                case 0 -> a = below(20) == 0 ? about(65536) : someOf(16, 2 + below(4));
                case 1 -> {
                    a = about(16);
                    b = about(16);
                    c = below(20) == 0 ? about(65536) : someOf(16, below(4));
                }
                case 2 -> {
                    a = about(5);
                    b = about(a == 0 ? 16 : 5);
                    c = a == 1 ? about(7) : below(20) == 0 ? 1 : 0;
                }
                case 3 -> {
                    a = about(16);
                    b = about(128);
                }
                case 4 -> {
                    a = about(16);
                    b = about(5);
                }
                case 5 -> {
                    a = suspect();
                    b = about(4);
                }
                case 6, 7, 13 -> {
                    a = about(7);
                    b = suspect();
                }
                case 8 -> {
                    a = about(7);
                    b = suspect();
                    c = about(16);
                    d = about(2);
                }
                case 10 -> {
                    a = suspect();
                    b = suspect();
                }
                case 9, 11, 17 -> a = suspect();
                case 12, 16 -> a = about(7);
                case 14 -> {
                    a = about(2);
                    b = about(2);
                }
                case 15 -> {
                    a = suspect();
                    b = about(7);
                    c = about(2);
                }
                case 19 -> a = about(16);
                case 20 -> a = about(21);
                case 21 -> a = 1 + about(below(2) == 0 ? 10 : 60);
                case 23, 29 -> a = about(2);
                case 24 -> {
                    a = suspect();
                    b = below(2) == 0 ? Math.max(-1, o.faultOf(a, 0)) : about(5);
                }
                case 25 -> a = about(16);
                case 27 -> a = 32 + about(95);
                default -> { }
            }
            if (method == 27 && below(3) > 0) {
                write();
            } else if (!compare(run, method, new int[] {a, b, c, d})) {
                return false;
            }
        }
        return true;
    }

    private boolean compare(int run, int method, int[] args) {
        calls++;
        int got = answer(method, args);
        int want = due(method, args);
        String told = "method " + method + " with " + java.util.Arrays.toString(args);
        log.append(told).append(" answered ").append(got).append('\n');
        Check.due("run " + run + ", call " + calls + ", " + told, got, want);
        if (got != want) {
            System.out.println(log);
        }
        return got == want;
    }

    /** A text of a few commands, some of which are not possible or not even commands. */
    private void write() {
        StringBuilder text = new StringBuilder();
        int commands = 1 + below(6);
        for (int i = 0; i < commands; i++) {
            int word = below(WORDS.length);
            text.append(" ".repeat(below(4) == 0 ? below(3) : 0)).append(WORDS[word]);
            int numbers = switch (word) {
                case 0 -> 2 + below(3);
                case 1 -> 2 + below(4);
                case 3 -> 2;
                case 7 -> 1 + below(5);
                default -> 1;
            };
            if (below(20) == 0) {
                numbers = below(10);
            }
            for (int n = 0; n < numbers; n++) {
                int range = word < 3 || word == 7 && n == 0 ? 16 : word == 7 ? 7 : 4;
                text.append(" ".repeat(below(15) == 0 ? below(3) : 1)).append(below(40) == 0 ? below(110) : below(range));
            }
            text.append(" ".repeat(below(8) == 0 ? below(3) : 0)).append(below(30) == 0 ? "" : ";");
            if (below(50) == 0) {
                text.setCharAt(below(text.length()), (char) (32 + below(95)));
            }
        }
        calls += 1 + text.length() + 3;
        if (calls > CALLS) {
            return;
        }
        Check.due("clearText()", x.clearText(), o.clearText());
        for (int i = 0; i < text.length(); i++) {
            Check.due("type", x.type(text.charAt(i)), o.type(text.charAt(i)));
        }
        log.append("text '").append(text).append("'\n");
        Check.due("place(0) of '" + text + "'", x.place(0), o.place(0));
        Check.due("place(1) of '" + text + "'", x.place(1), o.place(1));
        if (below(2) == 0) {
            Check.due("run() of '" + text + "'", x.run(), o.run());
        }
    }

    private int answer(int method, int[] a) {
        return switch (method) {
            case 0 -> x.net(a[0]);
            case 1 -> x.chip(a[0], a[1], a[2]);
            case 2 -> x.fault(a[0], a[1], a[2]);
            case 3 -> x.bless(a[0], a[1]);
            case 4 -> x.pinOf(a[0], a[1]);
            case 5 -> x.faultOf(a[0], a[1]);
            case 6 -> x.reached(a[0], a[1]);
            case 7 -> x.scanned(a[0], a[1]);
            case 8 -> x.reads(a[0], a[1], a[2], a[3]);
            case 9 -> x.daysOf(a[0]);
            case 10 -> x.alike(a[0], a[1]);
            case 11 -> x.twin(a[0]);
            case 12 -> x.outcomes(a[0]);
            case 13 -> x.likes(a[0], a[1]);
            case 14 -> x.fewestDays(a[0], a[1]);
            case 15 -> x.wanted(a[0], a[1], a[2]);
            case 16 -> x.share(a[0]);
            case 17 -> x.plant(a[0]);
            case 18 -> x.test();
            case 19 -> x.vouch(a[0]);
            case 20 -> x.vouchers(a[0]);
            case 21 -> x.pass(a[0]);
            case 22 -> x.suspects();
            case 23 -> x.bestDay(a[0]);
            case 24 -> x.file(a[0], a[1]);
            case 25 -> x.count(a[0]);
            case 26 -> x.undo();
            case 27 -> x.type(a[0]);
            case 28 -> x.clearText();
            case 29 -> x.place(a[0]);
            default -> x.run();
        };
    }

    private int due(int method, int[] a) {
        return switch (method) {
            case 0 -> o.net(a[0]);
            case 1 -> o.chip(a[0], a[1], a[2]);
            case 2 -> o.fault(a[0], a[1], a[2]);
            case 3 -> o.bless(a[0], a[1]);
            case 4 -> o.pinOf(a[0], a[1]);
            case 5 -> o.faultOf(a[0], a[1]);
            case 6 -> o.reached(a[0], a[1]);
            case 7 -> o.scanned(a[0], a[1]);
            case 8 -> o.reads(a[0], a[1], a[2], a[3]);
            case 9 -> o.daysOf(a[0]);
            case 10 -> o.alike(a[0], a[1]);
            case 11 -> o.twin(a[0]);
            case 12 -> o.outcomes(a[0]);
            case 13 -> o.likes(a[0], a[1]);
            case 14 -> o.fewestDays(a[0], a[1]);
            case 15 -> o.wanted(a[0], a[1], a[2]);
            case 16 -> o.share(a[0]);
            case 17 -> o.plant(a[0]);
            case 18 -> o.test();
            case 19 -> o.vouch(a[0]);
            case 20 -> o.vouchers(a[0]);
            case 21 -> o.pass(a[0]);
            case 22 -> o.suspects();
            case 23 -> o.bestDay(a[0]);
            case 24 -> o.file(a[0], a[1]);
            case 25 -> o.count(a[0]);
            case 26 -> o.undo();
            case 27 -> o.type(a[0]);
            case 28 -> o.clearText();
            case 29 -> o.place(a[0]);
            default -> o.run();
        };
    }
}
