/** Promise 4, sentence by sentence. */
public final class Promise4EdgesTest {

    public static void main(String[] args) {
        whereTheLatestTextWasWrong();
        lettersBefore();
        minusOneIfItWasNot();
        minusOneIfThereWasNone();
        asBefore();
        Check.end("Promise4EdgesTest");
    }

    private static void whereTheLatestTextWasWrong() {
        Check.sentence("Where the latest TEXT was WRONG");
        TokenDesk desk = new TokenDesk();
        String[] texts = {"$", "a $", "x", " x", "a\n  b\n c", "", "1 07", "'a", "\u0001", "x\n y", "ab '''c"};
        int[] places = {0, 2, -1, 1, 7, -1, 2, 0, 0, -1, 3};
        for (int i = 0; i < texts.length; i++) {
            String text = texts[i];
            int before = desk.wrong();
            Texts.feed(desk, text);
            Check.due("wrong() before scan() of " + text, desk::wrong, before);
            Check.due("scan() of " + text, Boolean.toString(Check.answer(() -> desk.scan(text.length())).equals(Texts.ARGUMENT)),
                Boolean.toString(places[i] >= 0));
            Check.due("wrong() of " + text, desk::wrong, places[i]);
            Check.due("wrong() of " + text + " again", desk::wrong, places[i]);
        }
    }

    private static void lettersBefore() {
        Check.sentence("(its number of LETTERS before)");
        for (int before : new int[] {0, 1, 2, 19, 20, 21, 255, 256, 2047, 2048, 4094, 4095}) {
            Texts.dueWrong("x".repeat(before) + "$", before);
            Texts.dueWrong("\n".repeat(before) + "?", before);
            Texts.dueWrong(" ".repeat(before) + "`", before);
            Texts.dueWrong("+".repeat(before) + "'", before);
            Texts.dueWrong("(".repeat(before) + "\u0000", before);
        }
        // of two that are wrong the first counts, but for octets
        Texts.dueWrong("a 07 0x", 2);
        Texts.dueWrong("a 'b\n c $", 2);
        Texts.dueWrong("a\n  b\n c\n$", 7);
        Texts.dueWrong("a $\n  b\n c", 2);
        Texts.dueWrong("a $ \u0001 \u0002", 4);
    }

    private static void minusOneIfItWasNot() {
        Check.sentence("-1 if it was not");
        TokenDesk desk = Texts.scanned("a $");
        Check.due("wrong()", desk::wrong, 2);
        Texts.feed(desk, "a b");
        Check.due("scan(3)", () -> desk.scan(3), 4);
        Check.due("wrong()", desk::wrong, -1);
        Check.due("an empty text", () -> Texts.scanned("").wrong(), -1);
        Check.due("a text of no tokens", () -> Texts.scanned("# $").wrong(), -1);
    }

    private static void minusOneIfThereWasNone() {
        Check.sentence("or there was none");
        TokenDesk desk = new TokenDesk();
        Check.due("new", desk::wrong, -1);
        Texts.feed(desk, "$ 07 '\u0001");
        Check.due("only fed", desk::wrong, -1);
        Check.due("scan(21)", () -> desk.scan(21), Texts.INDEX);
        Check.due("a refused scan() is no text", desk::wrong, -1);
    }

    private static void asBefore() {
        Check.sentence("(IndexOutOfBoundsException: as before)");
        for (String text : new String[] {"a $", "a b"}) {
            int before = text.equals("a $") ? 2 : -1;
            TokenDesk desk = Texts.scanned(text);
            for (int n : new int[] {-1, 1, 20, 4096, 4097, Integer.MAX_VALUE, Integer.MIN_VALUE}) {
                Check.due("scan(" + n + ")", () -> desk.scan(n), Texts.INDEX);
                Check.due("wrong() after scan(" + n + ")", desk::wrong, before);
            }
            Check.due("token(9, 0)", () -> desk.token(9, 0), Texts.INDEX);
            Check.due("wrong() after token()", desk::wrong, before);
            Texts.feed(desk, " ".repeat(4100));
            Check.due("feed()", () -> desk.feed(0, 0, 0, 0, 0), Texts.INDEX);
            Check.due("wrong() after feed()", desk::wrong, before);
            Check.due("scan(4096): what was fed stayed", () -> desk.scan(4096), 1);
            Check.due("wrong() after a right text", desk::wrong, -1);
        }
    }
}
