/** Promise 6: how many tokens there are. */
public final class Promise6ManyTest {

    public static void main(String[] args) {
        Check.due("new", () -> new TokenDesk().many(), 0);
        Check.due("only fed", () -> Texts.fed("x y").many(), 0);
        Check.due("an empty text", () -> Texts.scanned("").many(), 1);
        Check.due("a text", () -> Texts.scanned("x y\n").many(), 4);
        Check.due("a block", () -> Texts.scanned("x\n y\n").many(), 7);
        Check.due("a wrong text", () -> Texts.scanned("x y $").many(), 0);
        Check.due("a wrong level", () -> Texts.scanned("x\n  y\n z").many(), 0);
        manyFollowsTheLatestText();
        manyIsWhatScanAnswered();
        Check.end("Promise6ManyTest");
    }

    private static void manyFollowsTheLatestText() {
        TokenDesk desk = Texts.scanned("x y z");
        Texts.feed(desk, "x");
        Check.due("many() after feed()", desk::many, 5);
        Check.due("scan(21)", () -> desk.scan(21), Texts.INDEX);
        Check.due("many() after a refused scan()", desk::many, 5);
        Check.due("scan(1)", () -> desk.scan(1), 3);
        Check.due("many() after scan()", desk::many, 3);
        Check.due("scan(0)", () -> desk.scan(0), 1);
        Check.due("many() of an empty text", desk::many, 1);
        desk.feed(-1, 0, 0, 0, 0);
        Check.due("scan(1) of a bad octet", () -> desk.scan(1), Texts.ARGUMENT);
        Check.due("many() after a wrong text", desk::many, 0);
    }

    private static void manyIsWhatScanAnswered() {
        for (int letters = 0; letters <= 4096; letters += 512) {
            String text = "+".repeat(letters);
            TokenDesk desk = Texts.fed(text);
            String answered = Check.answer(() -> desk.scan(text.length()));
            Check.due("many() of " + letters, desk::many, answered);
            Check.due("scan() of " + letters, answered, Integer.toString(letters == 0 ? 1 : letters + 2));
        }
    }
}
