/** Promise 3: which n scan takes, what it answers, and that what was fed is nothing then. */
public final class Promise3ScanTest {

    public static void main(String[] args) {
        limitsOfN();
        refusedNLeavesAll();
        fedIsNothingThen();
        onlyTheFirstLettersCount();
        longestTexts();
        textsLeaveNothingBehind();
        Check.end("Promise3ScanTest");
    }

    private static void limitsOfN() {
        Check.due("scan(0) of nothing", () -> new TokenDesk().scan(0), 1);
        Check.due("scan(-1)", () -> Texts.fed("x").scan(-1), Texts.INDEX);
        Check.due("scan(least)", () -> Texts.fed("x").scan(Integer.MIN_VALUE), Texts.INDEX);
        Check.due("scan(most)", () -> Texts.fed("x").scan(Integer.MAX_VALUE), Texts.INDEX);
        Check.due("scan(20)", () -> Texts.fed("x".repeat(20)).scan(20), 3);
        Check.due("scan(21)", () -> Texts.fed("x".repeat(20)).scan(21), Texts.INDEX);
        Check.due("scan(4096)", () -> Texts.fed("x".repeat(4100)).scan(4096), 3);
        Check.due("scan(4097)", () -> Texts.fed("x".repeat(4100)).scan(4097), Texts.INDEX);
        Check.due("scan(4100)", () -> Texts.fed("x".repeat(4100)).scan(4100), Texts.INDEX);
    }

    private static void refusedNLeavesAll() {
        TokenDesk desk = Texts.scanned("$");
        Texts.feed(desk, "a b");
        Check.due("scan(21)", () -> desk.scan(21), Texts.INDEX);
        Check.due("wrong() is as before", desk::wrong, 0);
        Check.due("scan(3) of what stayed", () -> desk.scan(3), 4);
        Check.due("wrong() then", desk::wrong, -1);
        Check.due("scan(-1)", () -> desk.scan(-1), Texts.INDEX);
        Check.due("many() is as before", desk::many, 4);
    }

    private static void fedIsNothingThen() {
        TokenDesk desk = Texts.scanned("a");
        Check.due("scan(1) with nothing fed", () -> desk.scan(1), Texts.INDEX);
        Check.due("feed() after a scan", () -> desk.feed(0x24242424, 0, 0, 0, 0), 20);
        Check.due("scan() of a wrong text", () -> desk.scan(1), Texts.ARGUMENT);
        Check.due("scan(1) after a wrong text", () -> desk.scan(1), Texts.INDEX);
        Check.due("many() after a wrong text", desk::many, 0);
        Check.due("token(0, 0) after a wrong text", () -> desk.token(0, 0), Texts.INDEX);
        Check.due("feed() after a wrong text", () -> desk.feed(0, 0, 0, 0, 0), 20);
        Check.due("scan(0)", () -> desk.scan(0), 1);
    }

    private static void onlyTheFirstLettersCount() {
        Check.due("a bad octet behind n", () -> Texts.fed("ab$\u0001").scan(2), 3);
        Check.due("a name cut by n", () -> cut("abcdef", 3).token(0, 2), 3);
        Check.due("a keyword made by n", () -> cut("ifx", 2).token(0, 0), 26);
        Check.due("a sign cut by n", () -> cut("**=", 2).token(0, 0), 55);
        Check.due("a string cut by n", () -> cut("'a'", 2).wrong(), 0);
        Check.due("a join cut by n", () -> cut("a\\\n", 2).wrong(), 1);
        Check.due("a number's letter behind n", () -> cut("12x", 2).token(0, 0), 5);
        Check.due("a number's exponent cut by n", () -> cut("1e5", 2).wrong(), 0);
    }

    private static TokenDesk cut(String text, int n) {
        TokenDesk desk = Texts.fed(text);
        try {
            desk.scan(n);
        } catch (IllegalArgumentException e) {
            // what is wrong is asked of the desk
        }
        return desk;
    }

    private static void longestTexts() {
        scansTo("+".repeat(4096), 4098);
        scansTo("x\n".repeat(2048), 4097);
        scansTo("\n".repeat(4096), 1);
        scansTo(" ".repeat(4096), 1);
        scansTo("(".repeat(4096), 4098);
        scansTo("'" + "a".repeat(4094) + "'", 3);
        // six tokens in five letters, the most that there can be
        scansTo("x\n y\n".repeat(819) + "x", 819 * 6 + 3);
        scansTo(staircase(88), 88 * 2 + 89 * 2 + 1);
    }

    private static void scansTo(String text, int tokens) {
        Check.due(text, () -> Texts.fed(text).scan(text.length()), tokens);
    }

    /** Lines each of which is in by one blank more. */
    private static String staircase(int deepest) {
        StringBuilder text = new StringBuilder();
        for (int in = 0; in <= deepest; in++) {
            text.append(" ".repeat(in)).append("x\n");
        }
        return text.toString();
    }

    /** After each of these texts, right or wrong, the same text must give the same tokens. */
    private static void textsLeaveNothingBehind() {
        String text = "x\n y\nz";
        for (String before : new String[] {"", "(", "[\n{", "x\n y\n  z", "x\n y\n  $", "( $", "\n\n\nx", "'", " x", "x \\\n", "07"}) {
            TokenDesk desk = Texts.scanned(before);
            Texts.feed(desk, text);
            Check.due("scan() after " + before, () -> desk.scan(text.length()), 9);
            StringBuilder told = new StringBuilder();
            for (int k = 0; k < 9; k++) {
                told.append(desk.token(k, 0)).append(':').append(desk.token(k, 3)).append(' ');
            }
            Check.due("tokens after " + before, told.toString(), "4:1 1:1 2:2 4:2 1:2 3:3 4:3 1:3 0:3 ");
        }
    }
}
