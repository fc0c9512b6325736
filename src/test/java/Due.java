/** Counts the answers of one test's main, and prints those that are not as due. */
final class Due {
    private static int asked = 0;
    private static int wrong = 0;
    private static int sentences = 0;
    private static String sentence = "";
    private static int askedBefore = 0;

    private Due() {
    }

    /** What follows looks at this sentence of the document: told with each answer not as due. */
    static void by(String told) {
        endSentence();
        sentence = told;
        sentences++;
        askedBefore = asked;
    }

    /** A sentence that nothing was asked of has no test. */
    private static void endSentence() {
        if (!sentence.isEmpty() && asked == askedBefore) {
            wrong++;
            System.out.println("nothing was asked of [" + sentence + "]");
        }
    }

    static void is(String call, long got, long want) {
        asked++;
        if (got != want) {
            wrong++;
            if (wrong < 60) {
                String told = sentence.isEmpty() ? "" : "[" + sentence + "] ";
                System.out.println(told + call + " answered " + got + ", due is " + want);
            }
        }
    }

    static void is(String call, double got, double want) {
        is(call, Double.doubleToLongBits(got), Double.doubleToLongBits(want));
    }

    static void is(String call, boolean got, boolean want) {
        is(call, got ? 1 : 0, want ? 1 : 0);
    }

    static void is(String call, boolean got) {
        is(call, got ? 1 : 0, 1);
    }

    static void end() {
        endSentence();
        String told = sentences == 0 ? "" : " to " + sentences + " sentences";
        System.out.println(asked + " answers" + told + ", " + wrong + " not as due");
        if (wrong != 0 || asked == 0) {
            System.exit(1);
        }
    }
}
