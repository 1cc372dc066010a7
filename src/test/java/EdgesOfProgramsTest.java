/** Each sentence of "Programs" and the promises 29 to 32 that names an edge. */
public final class EdgesOfProgramsTest {
    private static final int INVALID = BlessedPins.INVALID_ARGUMENT;
    private static final int NOT_POSSIBLE = BlessedPins.NOT_POSSIBLE;
    private static final int LIMIT = BlessedPins.LIMIT_REACHED;
    private static final int NOT_FOUND = BlessedPins.NOT_FOUND;
    private static final int NONE = BlessedPins.NONE;
    private static final int FORM = 1;
    private static final int NO_PART = 2;
    private static final int OTHERWISE = 3;
    private static final String PROGRAMS = "Programs";
    private static final int[] FAR = {Integer.MIN_VALUE, Integer.MIN_VALUE + 1, -100, -1, 128, 65536 + 59, Integer.MAX_VALUE};

    public static void main(String[] args) {
        typeArguments();
        typeToTheEnd();
        clearing();
        placeArguments();
        placeWithoutFault();
        words();
        wordsAndTheirParts();
        numbersOfNet();
        numbersOfChip();
        numbersOfOtherWords();
        unlikeNumbers();
        unlikeDays();
        digits();
        digitsThatAreNone();
        spacesBetween();
        spacesAnywhere();
        spacesWithin();
        semicolons();
        positions();
        missingPins();
        missingNetsAndChips();
        missingDays();
        partsOfCommandsAhead();
        notPossibleNets();
        notPossibleChips();
        notPossibleFaults();
        reasonsInOrder();
        blessInPlace();
        shortsInAnyOrder();
        runAnswers();
        runOnTheBoardOfNow();
        runOfAnEmptyText();
        runThatIsRefused();
        runThatFillsTheBoard();
        Check.finish("EdgesOfProgramsTest");
    }

    /** Three nets, 0 to 2, of the pins 0 to 5, and a chip, 0, of the pins 6 and 7. */
    private static BlessedPins board() {
        BlessedPins x = new BlessedPins();
        x.net(3);
        x.net(12);
        x.net(48);
        x.chip(6, 7, 0);
        return x;
    }

    private static void faultDue(String text, int at, int reason) {
        BlessedPins x = board();
        Check.write(x, text);
        Check.due("place(0) of '" + text + "'", x.place(0), at);
        Check.due("place(1) of '" + text + "'", x.place(1), reason);
        Check.due("run() of '" + text + "'", x.run(), NOT_POSSIBLE);
    }

    private static void fineDue(String text, int commands) {
        BlessedPins x = board();
        Check.write(x, text);
        Check.due("place(0) of '" + text + "'", x.place(0), NOT_FOUND);
        Check.due("place(1) of '" + text + "'", x.place(1), NOT_FOUND);
        Check.due("run() of '" + text + "'", x.run(), commands);
    }

    private static void typeArguments() {
        Check.sentence(29, "character: 32 to 126; INVALID_ARGUMENT if character is out of range");
        BlessedPins x = new BlessedPins();
        int[] wrong = {-1, 0, 9, 10, 31, 127, 128, 160, 255};
        for (int character : wrong) {
            Check.due("type(" + character + ")", x.type(character), INVALID);
        }
        for (int number : FAR) {
            Check.due("type(" + number + ")", x.type(number), INVALID);
        }
        Check.due("count(10)", x.count(10), 0);
        Check.sentence(29, "Appends a character to the text. Returns the length of the text");
        for (int character = 32; character <= 126; character++) {
            Check.due("type(" + character + ")", x.type(character), character - 31);
        }
    }

    private static void typeToTheEnd() {
        Check.sentence(29, "LIMIT_REACHED if it has 100 characters");
        BlessedPins x = new BlessedPins();
        for (int i = 1; i <= 100; i++) {
            Check.due("character " + i, x.type(32), i);
        }
        Check.due("a hundred and first", x.type(32), LIMIT);
        Check.due("another one", x.type(126), LIMIT);
        Check.due("out of range, too", x.type(31), INVALID);
        Check.due("out of range, too", x.type(127), INVALID);
        Check.due("count(10)", x.count(10), 100);
        Check.due("the last one was not put in its place: place(0)", x.place(0), NOT_FOUND);
        x.clearText();
        Check.due("after clearText", x.type(126), 1);
        Check.sentence(PROGRAMS, "A text of at most 100 characters can be run as a program");
        faultDue(" ".repeat(93) + "net 8 9", 93, FORM);
        fineDue(" ".repeat(92) + "net 8 9;", 1);
        faultDue("low 1;" + "bless 0;".repeat(11) + "open 0", 94, FORM);
        fineDue("bless 0;".repeat(12) + "    ", 12);
        fineDue("bless 0;".repeat(12), 12);
    }

    private static void clearing() {
        Check.sentence(30, "Empties the text. Returns the length it had");
        BlessedPins x = new BlessedPins();
        Check.due("an empty one", x.clearText(), 0);
        x.type(32);
        Check.due("of one", x.clearText(), 1);
        Check.due("again", x.clearText(), 0);
        Check.write(x, "low 0;" + " ".repeat(94));
        Check.due("of 100", x.clearText(), 100);
        Check.due("count(10)", x.count(10), 0);
        Check.due("place(0)", x.place(0), NOT_FOUND);
        Check.write(x, "net 0 1");
        Check.due("what stood behind is gone: place(0)", x.place(0), 0);
        Check.due("place(1)", x.place(1), FORM);
        x.type(';');
        Check.due("place(1)", x.place(1), NOT_FOUND);
        Check.due("no change: count(9)", x.count(9), 0);
        Check.rewrite(x, "x");
        Check.due("a text with a fault: place(1)", x.place(1), FORM);
        x.clearText();
        Check.due("the fault is gone: place(1)", x.place(1), NOT_FOUND);
        Check.due("run()", x.run(), 0);
    }

    private static void placeArguments() {
        Check.sentence(31, "what: 0: its position; 1: its reason; INVALID_ARGUMENT if what is out of range");
        BlessedPins x = new BlessedPins();
        Check.due("without text: place(-1)", x.place(-1), INVALID);
        Check.due("without text: place(2)", x.place(2), INVALID);
        Check.write(x, "  low 0;");
        Check.due("place(-1)", x.place(-1), INVALID);
        Check.due("place(0)", x.place(0), 2);
        Check.due("place(1)", x.place(1), NO_PART);
        Check.due("place(2)", x.place(2), INVALID);
        Check.due("place(3)", x.place(3), INVALID);
        for (int number : FAR) {
            Check.due("place(" + number + ")", x.place(number), INVALID);
        }
    }

    private static void placeWithoutFault() {
        Check.sentence(31, "NOT_FOUND if the text has no fault (also if it has no commands)");
        fineDue("", 0);
        fineDue(" ", 0);
        fineDue(" ".repeat(100), 0);
        fineDue("low 0;", 1);
        Check.sentence(PROGRAMS, "What is left of the text behind the last \";\", if it is spaces alone, is no command.");
        fineDue("low 0; ", 1);
        fineDue("low 0;" + " ".repeat(94), 1);
        faultDue("low 0; x", 7, FORM);
        faultDue("low 0;" + " ".repeat(93) + "x", 99, FORM);
    }

    private static void words() {
        Check.sentence(PROGRAMS, "commands, each of which is a word, then numbers, and \";\"");
        String[] fine = {"net 8 9;", "chip 8 9;", "open 0;", "short 0 1;", "low 0;", "high 0;", "dead 0;", "bless 0;"};
        for (String command : fine) {
            fineDue(command, 1);
        }
        Check.sentence(PROGRAMS, "with a word that is none of these");
        String[] wrong = {"ne 8 9;", "nets 8 9;", "et 8 9;", "Net 8 9;", "NET 8 9;", "chi 8 9;", "chips 8 9;", "ope 0;",
            "opens 0;", "shor 0 1;", "shorts 0 1;", "lo 0;", "lows 0;", "hig 0;", "highs 0;", "dea 0;", "dead0;", "deads 0;",
            "bles 0;", "blesse 0;", "x 0;", "0 0;", "8 9;", "-;", "net net 8 9;", "tset 0;", "run;"};
        for (String command : wrong) {
            faultDue(command, 0, FORM);
        }
    }

    private static void wordsAndTheirParts() {
        Check.sentence(PROGRAMS, "\"open\" a pin; \"short\" two unlike nets, in any order; \"low\" a net; \"high\" a net; \"dead\" a chip");
        BlessedPins x = board();
        Check.write(x, "open 15;short 2 1;low 2;high 1;dead 0;net 14 8 15;chip 9 14;bless 8 0;bless 15 0;");
        Check.due("run()", x.run(), 9);
        int[] places = {15, 1, 2, 1, 0};
        for (int kind = 0; kind < 5; kind++) {
            Check.due("faultOf(" + kind + ", 0)", x.faultOf(kind, 0), kind);
            Check.due("faultOf(" + kind + ", 1)", x.faultOf(kind, 1), places[kind]);
            Check.due("faultOf(" + kind + ", 2)", x.faultOf(kind, 2), kind == 1 ? 2 : NOT_FOUND);
        }
        Check.sentence(PROGRAMS, "\"net\" and 2 to 5 unlike pins; \"chip\" 2 to 7 unlike pins; \"bless\" a pin and days");
        Check.due("pinOf(14, 0)", x.pinOf(14, 0), 3);
        Check.due("pinOf(14, 1)", x.pinOf(14, 1), 1);
        Check.due("pinOf(9, 2)", x.pinOf(9, 2), 0);
        Check.due("pinOf(14, 2)", x.pinOf(14, 2), 1);
        Check.due("reached(0, NONE)", x.reached(0, NONE), 256 + 32768);
        Check.due("reads(0, NONE, 8, 1)", x.reads(0, NONE, 8, 1), 256 + 32768);
        Check.due("reads(0, 0, 8, 1), open", x.reads(0, 0, 8, 1), 256);
    }

    private static String numbers(int from, int many) {
        StringBuilder text = new StringBuilder();
        for (int i = 0; i < many; i++) {
            text.append(' ').append(from + i);
        }
        return text.toString();
    }

    private static void numbersOfNet() {
        Check.sentence(PROGRAMS, "\"net\" and 2 to 5 unlike pins; too many or too few numbers");
        for (int many = 0; many <= 9; many++) {
            String command = "net" + numbers(7, many) + ";";
            if (many >= 2 && many <= 5) {
                fineDue(command, 1);
            } else {
                faultDue(command, 0, FORM);
            }
        }
    }

    private static void numbersOfChip() {
        Check.sentence(PROGRAMS, "\"chip\" 2 to 7 unlike pins, the entry, the exit and the cells; too many or too few numbers");
        for (int many = 0; many <= 8; many++) {
            String command = "chip" + numbers(8, many) + ";";
            if (many >= 2 && many <= 7) {
                fineDue(command, 1);
            } else {
                faultDue(command, 0, FORM);
            }
        }
        BlessedPins x = new BlessedPins();
        Check.write(x, "chip 15 0 14 1 13 2 12;");
        x.run();
        Check.due("the entry", x.pinOf(15, 2), 0);
        Check.due("the exit", x.pinOf(0, 2), 1);
        int[] cells = {14, 1, 13, 2, 12};
        for (int cell : cells) {
            Check.due("cell " + cell, x.pinOf(cell, 2), 2);
        }
        Check.due("no cell", x.pinOf(11, 2), NOT_FOUND);
    }

    private static void numbersOfOtherWords() {
        Check.sentence(PROGRAMS, "\"open\" a pin; \"low\" a net; \"high\" a net; \"dead\" a chip; too many or too few numbers");
        String[] ofOne = {"open", "low", "high", "dead"};
        for (String word : ofOne) {
            faultDue(word + ";", 0, FORM);
            faultDue(word + " ;", 0, FORM);
            fineDue(word + " 0;", 1);
            faultDue(word + " 0 1;", 0, FORM);
            faultDue(word + " 0 0;", 0, FORM);
            faultDue(word + " 0 1 2 3 4 5 6 7 8;", 0, FORM);
        }
        Check.sentence(PROGRAMS, "\"short\" two unlike nets; too many or too few numbers");
        faultDue("short;", 0, FORM);
        faultDue("short 0;", 0, FORM);
        fineDue("short 0 1;", 1);
        faultDue("short 0 1 2;", 0, FORM);
        Check.sentence(PROGRAMS, "\"bless\" a pin and 0 to 7 unlike days of the week; too many or too few numbers");
        faultDue("bless;", 0, FORM);
        for (int many = 0; many <= 7; many++) {
            fineDue("bless 15" + numbers(0, many) + ";", 1);
        }
        faultDue("bless 15" + numbers(0, 8) + ";", 0, FORM);
        faultDue("bless 15" + numbers(0, 9) + ";", 0, FORM);
    }

    private static void unlikeNumbers() {
        Check.sentence(PROGRAMS, "two that have to be unlike and are not");
        faultDue("net 8 8;", 0, FORM);
        faultDue("net 8 9 10 11 8;", 0, FORM);
        faultDue("net 8 9 10 11 11;", 0, FORM);
        faultDue("net 8 08;", 0, FORM);
        faultDue("chip 8 8;", 0, FORM);
        faultDue("chip 8 9 8;", 0, FORM);
        faultDue("chip 8 9 9;", 0, FORM);
        faultDue("chip 8 9 10 10;", 0, FORM);
        faultDue("chip 8 9 10 11 12 13 10;", 0, FORM);
        faultDue("short 0 0;", 0, FORM);
        faultDue("short 2 2;", 0, FORM);
        faultDue("short 1 01;", 0, FORM);
    }

    private static void unlikeDays() {
        Check.sentence(PROGRAMS, "0 to 7 unlike days of the week");
        faultDue("bless 8 0 0;", 0, FORM);
        faultDue("bless 8 0 1 2 3 4 5 0;", 0, FORM);
        faultDue("bless 8 6 06;", 0, FORM);
        fineDue("bless 0 0;", 1);
        fineDue("bless 6 0 1 2 3 4 5 6;", 1);
        BlessedPins x = new BlessedPins();
        Check.write(x, "bless 6 6 0;");
        x.run();
        Check.due("a pin with the number of its day: pinOf(6, 3)", x.pinOf(6, 3), 65);
    }

    private static void digits() {
        Check.sentence(PROGRAMS, "Numbers have 1 or 2 digits");
        fineDue("open 0;", 1);
        fineDue("open 00;", 1);
        fineDue("open 09;", 1);
        fineDue("open 15;", 1);
        faultDue("open 000;", 0, FORM);
        faultDue("open 015;", 0, FORM);
        faultDue("open 100;", 0, FORM);
        faultDue("open 99999999999;", 0, FORM);
        faultDue("open 4294967296;", 0, FORM);
        faultDue("open 99;", 0, NO_PART);
        fineDue("bless 07 01 06;", 1);
        fineDue("short 02 1;", 1);
        BlessedPins x = new BlessedPins();
        Check.write(x, "bless 10 01;bless 07 5;");
        x.run();
        Check.due("10 is ten: pinOf(10, 3)", x.pinOf(10, 3), 2);
        Check.due("07 is seven: pinOf(7, 3)", x.pinOf(7, 3), 32);
        Check.due("pinOf(1, 3)", x.pinOf(1, 3), 0);
    }

    private static void digitsThatAreNone() {
        Check.sentence(PROGRAMS, "if it is not of this form");
        String[] wrong = {"open -1;", "open +1;", "open 1.;", "open 1,;", "open a;", "open 1a;", "open a1;", "open /;",
            "open :;", "open 1/;", "open 1:;", "open 0x;", "open low;", "open 1 low;", "net 8 9 open;", "net 8,9;",
            "net 8 9.", "net (8 9);", "net 8 9!;", "bless 1 mon;", "~;", "!;"};
        for (String command : wrong) {
            faultDue(command, 0, FORM);
        }
    }

    private static void spacesBetween() {
        Check.sentence(PROGRAMS, "between two words or numbers there is one space or more");
        fineDue("net 8 9;", 1);
        fineDue("net  8   9;", 1);
        fineDue("net" + " ".repeat(47) + "8" + " ".repeat(47) + "9;", 1);
        faultDue("net8 9;", 0, FORM);
        faultDue("open0;", 0, FORM);
        faultDue("bless0;", 0, FORM);
        faultDue("net 89;", 0, FORM);
    }

    private static void spacesAnywhere() {
        Check.sentence(PROGRAMS, "spaces may stand anywhere else, too");
        fineDue(" net 8 9;", 1);
        fineDue("net 8 9 ;", 1);
        fineDue("   net 8 9   ;   low 0   ;   ", 2);
        fineDue("net 8 9;low 0;", 2);
        fineDue(" ".repeat(94) + "low 0;", 1);
        fineDue("low 0" + " ".repeat(94) + ";", 1);
    }

    private static void spacesWithin() {
        Check.sentence(PROGRAMS, "but not within words and numbers");
        faultDue("n et 8 9;", 0, FORM);
        faultDue("lo w 0;", 0, FORM);
        faultDue("l ow 0;", 0, FORM);
        faultDue("open 1 5;", 0, FORM);
        BlessedPins x = new BlessedPins();
        Check.write(x, "bless 1 5;");
        Check.due("run()", x.run(), 1);
        Check.due("a pin and a day, not pin 15: pinOf(1, 3)", x.pinOf(1, 3), 32);
        Check.due("pinOf(15, 3)", x.pinOf(15, 3), 0);
    }

    private static void semicolons() {
        Check.sentence(PROGRAMS, "or without its \";\"");
        faultDue("net 8 9", 0, FORM);
        faultDue("net 8 9 ", 0, FORM);
        faultDue("low 0; high 0", 7, FORM);
        faultDue("low 0 high 0;", 0, FORM);
        faultDue("low 9", 0, FORM);
        faultDue("net 0 9", 0, FORM);
        faultDue("n", 0, FORM);
        faultDue(" ".repeat(99) + "n", 99, FORM);
        Check.sentence(PROGRAMS, "if it is not of this form");
        faultDue(";", 0, FORM);
        faultDue(";;", 0, FORM);
        faultDue("   ;", 3, FORM);
        faultDue("low 0;;", 6, FORM);
        faultDue("low 0; ;high 0;", 7, FORM);
        faultDue(";low 0;", 0, FORM);
        faultDue(" ".repeat(99) + ";", 99, FORM);
        faultDue(";".repeat(100), 0, FORM);
    }

    private static void positions() {
        Check.sentence(PROGRAMS, "the position, from 0, of the first character that is no space"
                + " of the first command that is not possible");
        faultDue("low 9;", 0, NO_PART);
        faultDue(" low 9;", 1, NO_PART);
        faultDue("low 0;low 9;", 6, NO_PART);
        faultDue("low 0;  low 9;", 8, NO_PART);
        faultDue("low 0 ; low 9;", 8, NO_PART);
        faultDue("low 9;x;", 0, NO_PART);
        faultDue("x;low 9;", 0, FORM);
        faultDue("low 0;low 0;low 9;x", 6, OTHERWISE);
        faultDue("low 0;" + " ".repeat(88) + "low 9;", 94, NO_PART);
        faultDue("low 0;" + " ".repeat(92) + "x;", 98, FORM);
    }

    private static void missingPins() {
        Check.sentence(PROGRAMS, "2 if there is no such pin");
        fineDue("net 8 15;", 1);
        faultDue("net 8 16;", 0, NO_PART);
        faultDue("net 16 8;", 0, NO_PART);
        faultDue("net 8 9 10 11 16;", 0, NO_PART);
        faultDue("net 98 99;", 0, NO_PART);
        fineDue("chip 15 14;", 1);
        faultDue("chip 16 14;", 0, NO_PART);
        faultDue("chip 14 16;", 0, NO_PART);
        faultDue("chip 8 9 10 11 12 13 16;", 0, NO_PART);
        fineDue("open 15;", 1);
        faultDue("open 16;", 0, NO_PART);
        fineDue("bless 15;", 1);
        faultDue("bless 16;", 0, NO_PART);
        faultDue("bless 16 0 1;", 0, NO_PART);
    }

    private static void missingNetsAndChips() {
        Check.sentence(PROGRAMS, "2 if there is no such net");
        String[] ofNets = {"low", "high"};
        for (String word : ofNets) {
            fineDue(word + " 2;", 1);
            faultDue(word + " 3;", 0, NO_PART);
            faultDue(word + " 8;", 0, NO_PART);
            faultDue(word + " 99;", 0, NO_PART);
        }
        fineDue("short 1 2;", 1);
        faultDue("short 2 3;", 0, NO_PART);
        faultDue("short 3 2;", 0, NO_PART);
        faultDue("short 98 99;", 0, NO_PART);
        Check.sentence(PROGRAMS, "2 if there is no such chip");
        fineDue("dead 0;", 1);
        faultDue("dead 1;", 0, NO_PART);
        faultDue("dead 5;", 0, NO_PART);
        BlessedPins x = new BlessedPins();
        String[] texts = {"low 0;", "high 0;", "short 0 1;", "dead 0;"};
        for (String text : texts) {
            Check.rewrite(x, text);
            Check.due("on an empty board '" + text + "'", x.place(1), NO_PART);
        }
    }

    private static void missingDays() {
        Check.sentence(PROGRAMS, "2 if there is no such day");
        fineDue("bless 0 0 6;", 1);
        faultDue("bless 0 7;", 0, NO_PART);
        faultDue("bless 0 0 1 2 3 4 5 7;", 0, NO_PART);
        faultDue("bless 0 10;", 0, NO_PART);
        faultDue("bless 0 15;", 0, NO_PART);
        faultDue("bless 0 99;", 0, NO_PART);
    }

    private static void partsOfCommandsAhead() {
        Check.sentence(PROGRAMS, "when those ahead of it are done");
        fineDue("net 8 9;low 3;", 2);
        faultDue("low 3;net 8 9;", 0, NO_PART);
        faultDue("net 8 9;low 4;", 8, NO_PART);
        fineDue("net 8 9;short 3 0;", 2);
        fineDue("chip 8 9;dead 1;", 2);
        faultDue("dead 1;chip 8 9;", 0, NO_PART);
        faultDue("net 8 9;net 9 10;", 8, OTHERWISE);
        faultDue("chip 8 9;chip 10 9;", 9, OTHERWISE);
        faultDue("open 8;open 8;", 7, OTHERWISE);
        fineDue("open 8;open 9;", 2);
    }

    private static void notPossibleNets() {
        Check.sentence(PROGRAMS, "3 if it is not possible otherwise (by what net tells)");
        faultDue("net 0 8;", 0, OTHERWISE);
        faultDue("net 8 5;", 0, OTHERWISE);
        faultDue("net 0 1;", 0, OTHERWISE);
        fineDue("net 6 7;", 1);
        fineDue("net 6 7;net 8 9;net 10 11;net 12 13;net 14 15;", 5);
        faultDue("net 6 7;net 8 9;net 10 11;net 12 13;net 14 15;net 0 2;", 46, OTHERWISE);
    }

    private static void notPossibleChips() {
        Check.sentence(PROGRAMS, "3 if it is not possible otherwise (by what chip tells)");
        faultDue("chip 6 8;", 0, OTHERWISE);
        faultDue("chip 8 6;", 0, OTHERWISE);
        faultDue("chip 7 8;", 0, OTHERWISE);
        faultDue("chip 8 9 10 11 12 13 7;", 0, OTHERWISE);
        fineDue("chip 0 1;chip 2 3;chip 4 5;chip 8 9;", 4);
        faultDue("chip 0 1;chip 2 3;chip 4 5;chip 8 9;chip 10 11;", 36, OTHERWISE);
    }

    private static void notPossibleFaults() {
        Check.sentence(PROGRAMS, "3 if it is not possible otherwise (by what fault tells)");
        String[] twice = {"open 0;", "short 0 1;", "low 0;", "high 0;", "dead 0;"};
        for (String command : twice) {
            faultDue(command + command, command.length(), OTHERWISE);
        }
        StringBuilder ten = new StringBuilder();
        for (int pin = 0; pin < 10; pin++) {
            ten.append("open ").append(pin).append(';');
        }
        fineDue(ten.toString(), 10);
        faultDue(ten + "low 0;", 70, OTHERWISE);
        faultDue(ten + "open 0;", 70, OTHERWISE);
        faultDue(ten + "open 16;", 70, NO_PART);
        Check.sentence(PROGRAMS, "3 if it is not possible otherwise (by what bless tells)");
        fineDue(ten + "bless 0;bless 0;", 12);
    }

    private static void reasonsInOrder() {
        Check.sentence(PROGRAMS, "its reason is 1 if it is not of this form, 2 if there is no such part, and 3 otherwise");
        faultDue("net 16 16;", 0, FORM);
        faultDue("short 9 9;", 0, FORM);
        faultDue("bless 16 7 7;", 0, FORM);
        faultDue("open 16 0;", 0, FORM);
        faultDue("net 0 0;", 0, FORM);
        faultDue("chip 6 6;", 0, FORM);
        faultDue("net 0 16;", 0, NO_PART);
        faultDue("chip 6 16;", 0, NO_PART);
        faultDue("chip 16 6;", 0, NO_PART);
    }

    private static void blessInPlace() {
        Check.sentence(PROGRAMS, "\"bless\" a pin and 0 to 7 unlike days of the week (in place of those before)");
        BlessedPins x = new BlessedPins();
        x.bless(3, 127);
        Check.write(x, "bless 3 6;");
        x.run();
        Check.due("the last day alone", x.pinOf(3, 3), 64);
        Check.rewrite(x, "bless 3;");
        x.run();
        Check.due("no day", x.pinOf(3, 3), 0);
        Check.rewrite(x, "bless 3 6 5 4 3 2 1 0;");
        x.run();
        Check.due("all days", x.pinOf(3, 3), 127);
        Check.rewrite(x, "bless 3 1;bless 3 2 3;");
        x.run();
        Check.due("the latter", x.pinOf(3, 3), 4 + 8);
    }

    private static void shortsInAnyOrder() {
        Check.sentence(PROGRAMS, "\"short\" two unlike nets, in any order");
        faultDue("short 0 2;short 2 0;", 10, OTHERWISE);
        faultDue("short 2 0;short 0 2;", 10, OTHERWISE);
        BlessedPins x = board();
        Check.write(x, "short 2 0;");
        x.run();
        Check.due("the first net", x.faultOf(0, 1), 0);
        Check.due("the second net", x.faultOf(0, 2), 2);
        Check.due("the same by fault(1, 0, 2)", x.fault(1, 0, 2), NOT_POSSIBLE);
    }

    private static void runAnswers() {
        Check.sentence(32, "Returns how many commands there are in it");
        fineDue("low 0;", 1);
        fineDue("low 0;high 0;", 2);
        fineDue("bless 0;".repeat(12), 12);
        Check.sentence(32, "Runs the text as a program, which stays.");
        BlessedPins x = board();
        Check.write(x, "low 0; ");
        Check.due("run()", x.run(), 1);
        Check.due("count(10)", x.count(10), 7);
        Check.due("again: place(0)", x.place(0), 0);
        Check.due("again: run()", x.run(), NOT_POSSIBLE);
        Check.write(x, "low 1;");
        Check.due("typed behind it: run()", x.run(), NOT_POSSIBLE);
        x.undo();
        Check.due("after undo: run()", x.run(), 2);
        Check.due("count(2)", x.count(2), 2);
    }

    private static void runOnTheBoardOfNow() {
        Check.sentence(32, "Runs the text as a program");
        BlessedPins x = new BlessedPins();
        Check.write(x, "net 0 1 2 3 15;chip 4 15 5;short 1 0;low 0;dead 0;bless 4 0;bless 15 0;");
        Check.due("there is no net 1", x.run(), NOT_POSSIBLE);
        Check.due("place(0)", x.place(0), 27);
        x.net(64 + 128);
        Check.due("the first net is net 1 now", x.run(), 7);
        Check.due("pinOf(15, 0)", x.pinOf(15, 0), 1);
        Check.due("faultOf(0, 1)", x.faultOf(0, 1), 0);
        Check.due("reached(0, NONE)", x.reached(0, NONE), 16 + 32 + 32768);
        x.bless(3, 1);
        Check.due("reads(0, NONE, 15, 1)", x.reads(0, NONE, 15, 1), 8 + 32768);
        x.undo();
        Check.due("reached(0, 2), dead", x.reached(0, 2), 16 + 32768);
        Check.due("suspects(): of new faults the next planting knows", x.suspects(), 1024);
    }

    private static void runOfAnEmptyText() {
        Check.sentence(32, "All its commands are one change, also if there are none.");
        BlessedPins x = new BlessedPins();
        Check.due("without text", x.run(), 0);
        Check.due("count(9)", x.count(9), 1);
        x.type(32);
        Check.due("of a space", x.run(), 0);
        Check.due("count(9)", x.count(9), 2);
        Check.rewrite(x, "net 0 1;low 0;bless 0 0;");
        Check.due("of three", x.run(), 3);
        Check.due("count(9)", x.count(9), 3);
        Check.due("undo() of all three", x.undo(), 2);
        Check.due("count(0)", x.count(0), 0);
        Check.due("count(2)", x.count(2), 0);
        Check.due("pinOf(0, 3)", x.pinOf(0, 3), 0);
        x.clearText();
        for (int i = 3; i <= 6; i++) {
            x.run();
            Check.due("of none, again and again: count(9)", x.count(9), Math.min(i, 4));
        }
    }

    private static void runThatIsRefused() {
        Check.sentence(32, "NOT_POSSIBLE if it has a fault");
        String[] ends = {"low 9;", "x", ";", "net 0 1;", "low 0"};
        for (String end : ends) {
            BlessedPins x = new BlessedPins();
            Check.write(x, "net 0 1;chip 2 3;low 0;dead 0;bless 0 0;" + end);
            Check.due("run() with '" + end + "'", x.run(), NOT_POSSIBLE);
            for (int what = 0; what <= 2; what++) {
                Check.due("none ahead of '" + end + "' is done: count(" + what + ")", x.count(what), 0);
            }
            Check.due("pinOf(0, 3)", x.pinOf(0, 3), 0);
            Check.due("count(9)", x.count(9), 0);
            Check.due("place(0)", x.place(0), 40);
        }
        BlessedPins y = new BlessedPins();
        Check.write(y, "net 0 1;chip 2 3;low 0;dead 0;bless 0 0;low 9;");
        y.place(0);
        Check.due("place does nothing: count(0)", y.count(0), 0);
        Check.due("place does nothing: reached(0, NONE)", y.reached(0, NONE), 0);
    }

    private static void runThatFillsTheBoard() {
        Check.sentence(PROGRAMS, "A text of at most 100 characters can be run as a program");
        BlessedPins x = new BlessedPins();
        Check.write(x, "net 0 1;net 2 3;net 4 5;net 6 7;net 8 9;net 10 11;net 12 13;net 14 15;");
        Check.due("eight nets", x.run(), 8);
        Check.due("count(0)", x.count(0), 8);
        Check.rewrite(x, "chip 0 1;chip 2 3;chip 4 5;chip 6 7;chip 8 9 10 11 12 13 14;");
        Check.due("five chips", x.run(), 5);
        Check.due("count(1)", x.count(1), 5);
        Check.rewrite(x, "low 7;high 7;dead 4;open 15;short 6 7;short 7 0;low 0;low 1;low 2;low 3;");
        Check.due("ten faults", x.run(), 10);
        Check.due("count(2)", x.count(2), 10);
        Check.due("faultOf(5, 1)", x.faultOf(5, 1), 0);
        Check.due("faultOf(5, 2)", x.faultOf(5, 2), 7);
        Check.due("plant(9)", x.plant(9), 11);
        Check.rewrite(x, "low 4;");
        Check.due("place(1)", x.place(1), OTHERWISE);
        Check.due("scanned(0, NONE)", x.scanned(0, NONE), 0);
    }
}
