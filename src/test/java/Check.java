/** What the tests share: answers that are due, and objects with a table. */
final class Check {
    static final int PLAIN = 0, MIRROR = 1, OTHER = 2, EITHER = 3, BOTH = 4;

    private static int wrong = 0;
    private static String sentence = "";

    private Check() {
    }

    /** From here on the calls are tested for these words of the document: they are told ahead of what is wrong. */
    static void sentence(String words) {
        sentence = "\"" + words + "\": ";
    }

    static void due(String call, long got, long want) {
        if (got != want) {
            wrong++;
            System.out.println(sentence + call + " answered " + got + ", due is " + want);
        }
    }

    static void holds(String what, boolean so) {
        if (!so) {
            wrong++;
            System.out.println(sentence + "not so: " + what);
        }
    }

    /** Ends the test, with exit code 1 if an answer was not the one that is due. */
    static void end() {
        System.out.println(wrong == 0 ? "all answers are as due" : wrong + " answers are not as due");
        if (wrong != 0) {
            System.exit(1);
        }
    }

    static void write(TossRows x, String text) {
        for (int i = 0; i < text.length(); i++) {
            due("letter of " + text, x.letter(text.charAt(i)), x.count(7));
        }
    }

    static TossRows withTable(String text) {
        TossRows x = new TossRows();
        write(x, text);
        holds("table " + text, x.table() >= 2);
        return x;
    }

    /** Tosses these, 'h' or 't' each, and tells the last answer. */
    static int tossAll(TossRows x, String sides) {
        int last = 0;
        for (int i = 0; i < sides.length(); i++) {
            last = x.toss(sides.charAt(i) == 't' ? 1 : 0);
        }
        return last;
    }

    /** The number of a row that is told by its letters. */
    static int row(String letters) {
        return Integer.parseInt(letters.replace('h', '0').replace('t', '1'), 2);
    }
}
