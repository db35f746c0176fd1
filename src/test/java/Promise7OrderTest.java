/** Promise 7: a string of one quote goes over a 10 that stands behind a 92. */
public final class Promise7OrderTest {

    public static void main(String[] args) {
        Texts.dueTokens("'a\\\nb'", "7@0-6:1 1@6-6:2 0@6-6:2");
        Texts.dueTokens("\"\\\n\\\n\"x\n", "7@0-6:1 4@6-7:3 1@7-7:3 0@8-8:4");
        Texts.dueKinds("r'\\\n'", "7 1 0");
        Texts.dueKinds("rf\"\\\n\"", "7 1 0");
        Texts.dueKinds("'\\\\\\\n'", "7 1 0");
        Texts.dueKinds("x\n '\\\nb'\n y", "4 1 2 7 1 4 1 3 0");
        Texts.dueKinds("'#\\\n#' # c", "7 1 0");
        Texts.dueWrong("'a\nb'", 0);
        Texts.dueWrong("'a\\\n\n'", 0);
        Texts.dueWrong("'a\\\nb", 0);
        // the second 92 is behind the first, so the 10 is not
        Texts.dueWrong("'a\\\\\nb'", 0);
        Texts.dueWrong("x '\\ \n'", 2);
        Check.end("Promise7OrderTest");
    }
}
