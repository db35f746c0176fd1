/** Compares answers with what is due and ends a test with exit code 1 if one was not as due. */
final class Check {

    interface Call {
        int run();
    }

    private static String sentence = "";
    private static int compared = 0;
    private static int comparedBefore = 0;
    private static int wrong = 0;

    private Check() {
    }

    /** What is compared from here on is due by these words of the document. */
    static void sentence(String words) {
        endSentence();
        sentence = words;
    }

    private static void endSentence() {
        boolean untested = !sentence.isEmpty() && compared == comparedBefore;
        if (untested) {
            wrong++;
            System.out.println("nothing is compared for: " + sentence);
        }
        comparedBefore = compared;
    }

    /** What a call answers, or the name of the exception that it throws. */
    static String answer(Call call) {
        try {
            return Integer.toString(call.run());
        } catch (RuntimeException e) {
            return e.getClass().getSimpleName();
        }
    }

    static void due(String what, Call call, int want) {
        due(what, answer(call), Integer.toString(want));
    }

    static void due(String what, Call call, String want) {
        due(what, answer(call), want);
    }

    static void due(String what, String got, String want) {
        compared++;
        if (!got.equals(want)) {
            wrong++;
            if (wrong <= 20) {
                String words = sentence.isEmpty() ? "" : "[" + sentence + "] ";
                System.out.println(words + Texts.shown(what) + ": " + got + ", due is " + want);
            }
        }
    }

    static void end(String test) {
        endSentence();
        System.out.println(test + ": " + compared + " answers, " + wrong + " not as due");
        if (wrong != 0 || compared == 0) {
            System.exit(1);
        }
    }
}
