/** Counts the answers that are not as due, and ends a test. */
final class Check {
    private static int answers = 0;
    private static int wrong = 0;
    private static String told = "";

    private Check() {
    }

    static void promise(int number) {
        told = "promise " + number;
    }

    /** What follows tests one sentence of the document, which stands under this heading. */
    static void sentence(String heading, String words) {
        told = heading + ", '" + words + "'";
    }

    static void sentence(int promise, String words) {
        sentence("promise " + promise, words);
    }

    static void due(String call, long got, long want) {
        answers++;
        if (got != want) {
            wrong++;
            System.out.println(told + ": " + call + " answered " + got + ", due is " + want);
        }
    }

    static void finish(String test) {
        System.out.println(test + ": " + answers + " answers, " + wrong + " of them not as due");
        if (wrong != 0 || answers == 0) {
            System.exit(1);
        }
    }

    static void same(String call, String got, String want) {
        answers++;
        if (!got.equals(want)) {
            wrong++;
            System.out.println(told + ": " + call + "\n  answered " + got + "\n  due is   " + want);
        }
    }

    static void write(BlessedPins x, String text) {
        for (int i = 0; i < text.length(); i++) {
            x.type(text.charAt(i));
        }
    }

    static void rewrite(BlessedPins x, String text) {
        x.clearText();
        write(x, text);
    }
}
