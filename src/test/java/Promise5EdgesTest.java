/** Promise 5's own section, sentence by sentence. */
public final class Promise5EdgesTest {

    private static final String TEXT = "a\n '''\n'''\n";
    /** Kind, first place, place behind, line of NAME, EOL, IN, STRING, EOL, OUT, END. */
    private static final int[][] TOKENS = {{4, 0, 1, 1}, {1, 1, 1, 1}, {2, 3, 3, 2}, {7, 3, 10, 2}, {1, 10, 10, 3},
        {3, 11, 11, 4}, {0, 11, 11, 4}};

    public static void main(String[] args) {
        parts();
        tokenZeroIsFirst();
        linesOfStringsAndEols();
        noSuchToken();
        anotherWhat();
        whatIsLookedAtFirst();
        Check.end("Promise5EdgesTest");
    }

    private static void parts() {
        String[] sentences = {"what 0: its KIND", "1: its first place", "2: the place behind it", "3: its LINE"};
        TokenDesk desk = Texts.scanned(TEXT);
        for (int what = 0; what < 4; what++) {
            Check.sentence(sentences[what]);
            for (int k = 0; k < TOKENS.length; k++) {
                int token = k;
                int part = what;
                Check.due("token(" + k + ", " + what + ")", () -> desk.token(token, part), TOKENS[k][what]);
            }
        }
    }

    private static void tokenZeroIsFirst() {
        Check.sentence("Of TOKEN k (0 first)");
        TokenDesk desk = Texts.scanned("+".repeat(4096));
        for (int k : new int[] {0, 1, 2, 1000, 4094, 4095}) {
            Check.due("token(" + k + ", 0)", () -> desk.token(k, 0), 60);
            Check.due("token(" + k + ", 1)", () -> desk.token(k, 1), k);
            Check.due("token(" + k + ", 2)", () -> desk.token(k, 2), k + 1);
        }
        Check.due("token(4096, 0)", () -> desk.token(4096, 0), 1);
        Check.due("token(4097, 0)", () -> desk.token(4097, 0), 0);
    }

    private static void linesOfStringsAndEols() {
        Check.sentence("(a STRING's: of its first LETTER");
        Texts.dueTokens("'''\n\n'''", "7@0-8:1 1@8-8:3 0@8-8:3");
        Texts.dueTokens("\n\nf'\\\n'", "7@2-7:3 1@7-7:4 0@7-7:4");
        Texts.dueTokens("x '''\n''' '''\n'''", "4@0-1:1 7@2-9:1 7@10-17:2 1@17-17:3 0@17-17:3");
        Texts.dueTokens("'''\n'''x\ny", "7@0-7:1 4@7-8:2 1@8-8:2 4@9-10:3 1@10-10:3 0@10-10:3");
        Check.sentence("EOL's: the LINE in which it ends)");
        Texts.dueTokens("x\\\n\\\ny\nz", "4@0-1:1 4@5-6:3 1@6-6:3 4@7-8:4 1@8-8:4 0@8-8:4");
        Texts.dueTokens("(\n\n)\n", "75@0-1:1 76@3-4:3 1@4-4:3 0@5-5:4");
        Texts.dueTokens("x\\\n\n", "4@0-1:1 1@3-3:2 0@4-4:3");
        Texts.dueTokens("x\\\n", "4@0-1:1 1@3-3:2 0@3-3:2");
        Texts.dueTokens("{\n\n\n", "79@0-1:1 1@4-4:4 0@4-4:4");
        Texts.dueTokens("x", "4@0-1:1 1@1-1:1 0@1-1:1");
    }

    private static void noSuchToken() {
        Check.sentence("IndexOutOfBoundsException: there is no such TOKEN");
        TokenDesk desk = Texts.scanned(TEXT);
        Check.due("token(6, 0)", () -> desk.token(6, 0), 0);
        for (int k : new int[] {7, 8, 5462, 5463, 5464, 65536, Integer.MAX_VALUE, -1, -7, Integer.MIN_VALUE}) {
            for (int what = 0; what < 4; what++) {
                int part = what;
                Check.due("token(" + k + ", " + what + ")", () -> desk.token(k, part), Texts.INDEX);
            }
        }
        Check.due("many() is as before", desk::many, 7);
        Check.due("token(3, 2) is as before", () -> desk.token(3, 2), 10);
        Texts.feed(desk, "x");
        Check.due("scan(1)", () -> desk.scan(1), 3);
        Check.due("token(2, 0)", () -> desk.token(2, 0), 0);
        Check.due("token(3, 0) of the text before", () -> desk.token(3, 0), Texts.INDEX);
        Texts.feed(desk, "$");
        Check.due("scan(1)", () -> desk.scan(1), Texts.ARGUMENT);
        Check.due("token(0, 0) of a wrong text", () -> desk.token(0, 0), Texts.INDEX);
        Check.due("token(0, 0) of a new object", () -> new TokenDesk().token(0, 0), Texts.INDEX);
        Check.sentence("A call that throws changes nothing: token()");
        Refusals.ofToken();
    }

    private static void anotherWhat() {
        Check.sentence("IllegalArgumentException: another what");
        TokenDesk desk = Texts.scanned(TEXT);
        for (int what : new int[] {-1, -4, Integer.MIN_VALUE, 4, 5, 64, Integer.MAX_VALUE}) {
            Check.due("token(0, " + what + ")", () -> desk.token(0, what), Texts.ARGUMENT);
            Check.due("token(0, 0) is as before", () -> desk.token(0, 0), 4);
            Check.due("many() is as before", desk::many, 7);
        }
    }

    private static void whatIsLookedAtFirst() {
        Check.sentence("(looked at first)");
        for (TokenDesk desk : new TokenDesk[] {new TokenDesk(), Texts.scanned(TEXT), Texts.scanned("$"), Texts.fed("x")}) {
            for (int k : new int[] {-1, 7, Integer.MAX_VALUE, Integer.MIN_VALUE}) {
                Check.due("token(" + k + ", 4)", () -> desk.token(k, 4), Texts.ARGUMENT);
                Check.due("token(" + k + ", -1)", () -> desk.token(k, -1), Texts.ARGUMENT);
                Check.due("token(" + k + ", 3)", () -> desk.token(k, 3), Texts.INDEX);
            }
        }
    }
}
