/** Counts the answers that are not as due, and ends a test. */
final class Check {
    private static int answers = 0;
    private static int wrong = 0;
    private static String promise = "";

    private Check() {
    }

    static void promise(int number) {
        promise = "promise " + number;
    }

    static void due(String call, long got, long want) {
        answers++;
        if (got != want) {
            wrong++;
            System.out.println(promise + ": " + call + " answered " + got + ", due is " + want);
        }
    }

    static void finish(String test) {
        System.out.println(test + ": " + answers + " answers, " + wrong + " of them not as due");
        if (wrong != 0 || answers == 0) {
            System.exit(1);
        }
    }

    static void write(BlessedPins x, String text) {
        for (int i = 0; i < text.length(); i++) {
            x.type(text.charAt(i));
        }
    }

    static void rewrite(BlessedPins x, String text) {
        x.clearText();
        write(x, text);
    }
}
