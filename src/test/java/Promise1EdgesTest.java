/** Promise 1, sentence by sentence, and which calls change what. */
public final class Promise1EdgesTest {

    public static void main(String[] args) {
        nothingIsFed();
        noTokens();
        callsThatThrowChangeNothing();
        wrongScanChanges();
        Check.end("Promise1EdgesTest");
    }

    private static void nothingIsFed() {
        Check.sentence("Nothing is fed");
        TokenDesk desk = new TokenDesk();
        Check.due("scan(1)", () -> desk.scan(1), Texts.INDEX);
        Check.due("scan(20)", () -> desk.scan(20), Texts.INDEX);
        Check.due("scan(4096)", () -> desk.scan(4096), Texts.INDEX);
        Check.due("feed()", () -> desk.feed(0x61616161, 0x61616161, 0x61616161, 0x61616161, 0x61616161), 20);
        Check.due("scan(21)", () -> desk.scan(21), Texts.INDEX);
        Check.due("scan(20)", () -> desk.scan(20), 3);
        Check.due("token(0, 1)", () -> desk.token(0, 1), 0);
        Check.due("token(0, 2)", () -> desk.token(0, 2), 20);
    }

    private static void noTokens() {
        Check.sentence("no TOKENS");
        TokenDesk desk = new TokenDesk();
        Check.due("many()", desk::many, 0);
        for (int what = 0; what < 4; what++) {
            int part = what;
            Check.due("token(0, " + what + ")", () -> desk.token(0, part), Texts.INDEX);
        }
        Check.due("wrong()", desk::wrong, -1);
        Texts.feed(desk, "a b");
        Check.due("many() of what is fed alone", desk::many, 0);
        Check.due("token(0, 0) of what is fed alone", () -> desk.token(0, 0), Texts.INDEX);
    }

    private static void callsThatThrowChangeNothing() {
        Check.sentence("A call that throws changes nothing: feed()");
        Refusals.ofFeed();
        Check.sentence("A call that throws changes nothing: scan() of no such n");
        Refusals.ofScan();
        Check.sentence("A call that throws changes nothing: token()");
        Refusals.ofToken();
    }

    private static void wrongScanChanges() {
        Check.sentence("but scan() when THE TEXT is WRONG");
        TokenDesk desk = Texts.scanned("a b c");
        Texts.feed(desk, "a $ b".repeat(8));
        Check.due("scan(40)", () -> desk.scan(40), Texts.ARGUMENT);
        Check.due("wrong()", desk::wrong, 2);
        Check.due("many()", desk::many, 0);
        Check.due("token(0, 0)", () -> desk.token(0, 0), Texts.INDEX);
        Check.due("scan(1)", () -> desk.scan(1), Texts.INDEX);
        Check.due("feed()", () -> desk.feed(0x78202B20, 0x790A0000, 0, 0, 0), 20);
        Check.due("wrong() after feed()", desk::wrong, 2);
        Check.due("scan(6)", () -> desk.scan(6), 5);
        Check.due("wrong() after a right text", desk::wrong, -1);
    }
}
