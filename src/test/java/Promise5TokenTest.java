/** Promise 5: the parts of a token, and which questions are refused. */
public final class Promise5TokenTest {

    private static final String TEXT = "if a:\n  b = '''\n''' + (1,\n 2.)\n\n# c\nd \\\n e\n";
    private static final String TOLD = "26@0-2:1 4@3-4:1 82@4-5:1 1@5-5:1 2@8-8:2 4@8-9:2 86@10-11:2 7@12-19:2"
        + " 60@20-21:3 75@22-23:3 5@23-24:3 81@24-25:3 6@27-29:4 76@29-30:4 1@30-30:4 3@36-36:7 4@36-37:7"
        + " 4@41-42:8 1@42-42:8 0@43-43:9";

    public static void main(String[] args) {
        Texts.dueTokens(TEXT, TOLD);
        refused();
        whatIsLookedAtFirst();
        answersStay();
        lines();
        Check.end("Promise5TokenTest");
    }

    private static void refused() {
        TokenDesk desk = Texts.scanned(TEXT);
        Check.due("many()", desk::many, 20);
        Check.due("token(19, 0)", () -> desk.token(19, 0), 0);
        Check.due("token(20, 0)", () -> desk.token(20, 0), Texts.INDEX);
        Check.due("token(-1, 0)", () -> desk.token(-1, 0), Texts.INDEX);
        Check.due("token(most, 3)", () -> desk.token(Integer.MAX_VALUE, 3), Texts.INDEX);
        Check.due("token(least, 3)", () -> desk.token(Integer.MIN_VALUE, 3), Texts.INDEX);
        Check.due("token(0, 4)", () -> desk.token(0, 4), Texts.ARGUMENT);
        Check.due("token(0, -1)", () -> desk.token(0, -1), Texts.ARGUMENT);
        Check.due("token(0, most)", () -> desk.token(0, Integer.MAX_VALUE), Texts.ARGUMENT);
        Check.due("token(0, least)", () -> desk.token(0, Integer.MIN_VALUE), Texts.ARGUMENT);
    }

    private static void whatIsLookedAtFirst() {
        Check.due("token(20, 4)", () -> Texts.scanned(TEXT).token(20, 4), Texts.ARGUMENT);
        Check.due("token(-1, -1)", () -> Texts.scanned(TEXT).token(-1, -1), Texts.ARGUMENT);
        Check.due("new: token(0, 4)", () -> new TokenDesk().token(0, 4), Texts.ARGUMENT);
        Check.due("new: token(0, 3)", () -> new TokenDesk().token(0, 3), Texts.INDEX);
        Check.due("wrong text: token(0, 0)", () -> Texts.scanned("x $").token(0, 0), Texts.INDEX);
    }

    private static void answersStay() {
        TokenDesk desk = Texts.scanned("abc de");
        Texts.feed(desk, "\n\n\n\n# nothing of it matters yet");
        Check.due("token(1, 0)", () -> desk.token(1, 0), 4);
        Check.due("token(1, 1)", () -> desk.token(1, 1), 4);
        Check.due("token(1, 2)", () -> desk.token(1, 2), 6);
        Check.due("token(1, 3)", () -> desk.token(1, 3), 1);
        Check.due("scan(4)", () -> desk.scan(4), 1);
        Check.due("token(0, 0)", () -> desk.token(0, 0), 0);
        Check.due("token(0, 3)", () -> desk.token(0, 3), 5);
        Check.due("token(1, 1) of a text before", () -> desk.token(1, 1), Texts.INDEX);
    }

    private static void lines() {
        Texts.dueTokens("'''\n\n'''", "7@0-8:1 1@8-8:3 0@8-8:3");
        Texts.dueTokens("'\\\n'\n", "7@0-4:1 1@4-4:2 0@5-5:3");
        Texts.dueTokens("a\n b\n\n", "4@0-1:1 1@1-1:1 2@3-3:2 4@3-4:2 1@4-4:2 3@6-6:4 0@6-6:4");
        String far = "\n".repeat(4095) + "x";
        Texts.dueTokens(far, "4@4095-4096:4096 1@4096-4096:4096 0@4096-4096:4096");
        Texts.dueTokens("\n".repeat(4096), "0@4096-4096:4097");
    }
}
