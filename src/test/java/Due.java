/** Counts the answers that are not as due; each test's main method ends with end(). */
final class Due {
    private static String sentence = "";
    private static int wrong = 0;
    private static int asked = 0;

    private Due() {
    }

    /** The answers that follow are due by these words of a promise. */
    static void promise(int number, String words) {
        sentence = "promise " + number + ", \"" + words + "\": ";
    }

    /** The answers that follow are due by these words of the document above its promises. */
    static void terms(String words) {
        sentence = "terms, \"" + words + "\": ";
    }

    /** The answers that follow are due by these words of a rule of LANGUAGE.md (0: what stands above its rules). */
    static void rule(int number, String words) {
        sentence = "rule " + number + ", \"" + words + "\": ";
    }

    static void is(String call, long got, long want) {
        asked++;
        if (got != want) {
            wrong++;
            System.out.println(sentence + call + " answered " + got + ", due is " + want);
        }
    }

    static void is(String call, boolean got, boolean want) {
        is(call, got ? 1 : 0, want ? 1 : 0);
    }

    static void end() {
        System.out.println(wrong == 0 ? asked + " answers are as due" : wrong + " answers are not as due");
        if (wrong != 0) {
            System.exit(1);
        }
    }
}
