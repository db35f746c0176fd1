/** Promise 3's own section, sentence by sentence; what its terms mean is in the tests of its terms. */
public final class Promise3EdgesTest {

    public static void main(String[] args) {
        theFirstOctets();
        fedIsNothingThen();
        howManyTokens();
        noSuchN();
        wrongTexts();
        Check.end("Promise3EdgesTest");
    }

    private static void theFirstOctets() {
        Check.sentence("THE TEXT is the first n octets of what was fed");
        String fed = "a\n b # c\n'd'\\\n 0x1 **= ";
        for (int n = 0; n <= fed.length(); n++) {
            TokenDesk desk = Texts.fed(fed);
            String text = fed.substring(0, n);
            int letters = n;
            TokenDesk alone = Texts.scanned(text);
            String want = alone.wrong() == -1 ? Integer.toString(alone.many()) : Texts.ARGUMENT;
            Check.due("scan(" + n + ")", () -> desk.scan(letters), want);
            Check.due("wrong() of " + n, desk::wrong, alone.wrong());
        }
        Check.due("scan(0) of what would be wrong", () -> Texts.fed("\u0000").scan(0), 1);
        Check.due("scan(1): no name goes on behind n", () -> Texts.fed("i\u0001").scan(1), 3);
        Check.due("scan(2): no string is closed behind n", () -> Texts.fed("'a'").scan(2), Texts.ARGUMENT);
        Check.due("scan(2): no 92 joins behind n", () -> Texts.fed("a\\\n").scan(2), Texts.ARGUMENT);
        TokenDesk desk = Texts.fed("x".repeat(4096) + "$\u0001\u0002\u0003");
        Check.due("scan(4096): the last four are of no text", () -> desk.scan(4096), 3);
        Check.due("token(0, 2)", () -> desk.token(0, 2), 4096);
    }

    private static void fedIsNothingThen() {
        Check.sentence("which is nothing then, WRONG or not");
        for (String text : new String[] {"", "x", "$", " x", "'", "07", "\u0001", "a\n  b\n c"}) {
            TokenDesk desk = Texts.fed(text + "abcdefghijklmnopqrstuvwxyz");
            Check.answer(() -> desk.scan(text.length()));
            Check.due("scan(1) after " + text, () -> desk.scan(1), Texts.INDEX);
            Check.due("feed() after " + text, () -> desk.feed(0x79202020, 0x20202020, 0x20202020, 0x20202020, 0), 20);
            Check.due("scan(21)", () -> desk.scan(21), Texts.INDEX);
            Check.due("scan(16)", () -> desk.scan(16), 3);
            Check.due("token(0, 2)", () -> desk.token(0, 2), 1);
            Check.due("scan(0)", () -> desk.scan(0), 1);
        }
    }

    private static void howManyTokens() {
        Check.sentence("how many TOKENS");
        scansTo("", 1);
        scansTo("x", 3);
        scansTo("x\n y", 7);
        scansTo("+".repeat(4096), 4098);
        scansTo("x".repeat(4096), 3);
        scansTo("\n".repeat(4096), 1);
        scansTo(" ".repeat(4096), 1);
        scansTo("#".repeat(4096), 1);
        scansTo("\\\n".repeat(2048), 1);
        scansTo("[".repeat(4096), 4098);
        // six tokens in five letters: the most that 4,096 letters can have
        scansTo("x\n y\n".repeat(818) + "x\n y+z", 818 * 6 + 9);
        scansTo("x\n".repeat(2048), 4097);
        scansTo(stairs(88), 89 * 2 + 88 * 2 + 1);
        scansTo(stairs(88).substring(0, 4092) + "yyyy", 89 * 2 + 88 * 2 + 1);
    }

    private static String stairs(int deepest) {
        StringBuilder text = new StringBuilder();
        for (int in = 0; in <= deepest; in++) {
            text.append(" ".repeat(in)).append("x\n");
        }
        return text.toString();
    }

    private static void scansTo(String text, int tokens) {
        TokenDesk desk = Texts.fed(text);
        Check.due("scan() of " + text, () -> desk.scan(text.length()), tokens);
        Check.due("many() of " + text, desk::many, tokens);
        Check.due("the last token of " + text, () -> desk.token(tokens - 1, 0), 0);
        Check.due("none behind it of " + text, () -> desk.token(tokens, 0), Texts.INDEX);
    }

    private static void noSuchN() {
        Check.sentence("IndexOutOfBoundsException: n is below 0");
        Check.due("scan(0)", () -> Texts.fed("x").scan(0), 1);
        Check.due("scan(-1)", () -> Texts.fed("x").scan(-1), Texts.INDEX);
        Check.due("scan(least)", () -> Texts.fed("x").scan(Integer.MIN_VALUE), Texts.INDEX);
        Check.sentence("above 4,096");
        Check.due("scan(4096)", () -> Texts.fed("x".repeat(4100)).scan(4096), 3);
        for (int n = 4097; n <= 4100; n++) {
            int letters = n;
            Check.due("scan(" + n + ")", () -> Texts.fed("x".repeat(4100)).scan(letters), Texts.INDEX);
        }
        Check.sentence("or above what was fed");
        Check.due("scan(20)", () -> Texts.fed("x".repeat(20)).scan(20), 3);
        Check.due("scan(21)", () -> Texts.fed("x".repeat(20)).scan(21), Texts.INDEX);
        Check.due("scan(4080)", () -> Texts.fed("x".repeat(4080)).scan(4080), 3);
        Check.due("scan(4081)", () -> Texts.fed("x".repeat(4080)).scan(4081), Texts.INDEX);
        Check.due("scan(21) of what is wrong", () -> Texts.fed("\u0001".repeat(20)).scan(21), Texts.INDEX);
        Check.sentence("all stays then");
        Refusals.ofScan();
    }

    private static void wrongTexts() {
        Check.sentence("IllegalArgumentException: WRONG; there are no TOKENS then");
        for (String text : new String[] {"\u0001", "a b \u007f", " x", "a\n  b\n c", "a b 07", "a 0x", "a 1_", "a 'b", "a $"}) {
            TokenDesk desk = Texts.scanned("x y z");
            Texts.feed(desk, text);
            Check.due("scan() of " + text, () -> desk.scan(text.length()), Texts.ARGUMENT);
            Check.due("many() after " + text, desk::many, 0);
            Check.due("token(0, 0) after " + text, () -> desk.token(0, 0), Texts.INDEX);
            Check.due("feed() after " + text, () -> desk.feed(0x78787878, 0, 0, 0, 0), 20);
            Check.due("scan(4) after " + text, () -> desk.scan(4), 3);
            Check.due("token(0, 2) after " + text, () -> desk.token(0, 2), 4);
            Check.due("wrong() after a right text", desk::wrong, -1);
        }
    }
}
