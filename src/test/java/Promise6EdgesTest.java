/** Promise 6: how many tokens there are, after every sort of call. */
public final class Promise6EdgesTest {

    public static void main(String[] args) {
        afterEverySortOfCall();
        leastAndMost();
        Check.end("Promise6EdgesTest");
    }

    private static void afterEverySortOfCall() {
        Check.sentence("How many TOKENS there are");
        TokenDesk desk = new TokenDesk();
        Check.due("many() of a new object", desk::many, 0);
        Texts.feed(desk, "a b c");
        Check.due("many() of what is fed alone", desk::many, 0);
        Check.due("scan(21)", () -> desk.scan(21), Texts.INDEX);
        Check.due("many() after a refused scan()", desk::many, 0);
        Check.due("scan(5)", () -> desk.scan(5), 5);
        Check.due("many() after scan()", desk::many, 5);
        Check.due("many() again", desk::many, 5);
        Check.due("token(5, 0)", () -> desk.token(5, 0), Texts.INDEX);
        Check.due("token(0, 4)", () -> desk.token(0, 4), Texts.ARGUMENT);
        Check.due("many() after refused token()s", desk::many, 5);
        Check.due("scan(1)", () -> desk.scan(1), Texts.INDEX);
        Check.due("many() after a refused scan()", desk::many, 5);
        Texts.feed(desk, "$");
        Check.due("many() after feed()", desk::many, 5);
        Check.due("scan(1)", () -> desk.scan(1), Texts.ARGUMENT);
        Check.due("many() after a wrong text", desk::many, 0);
        Check.due("scan(-1)", () -> desk.scan(-1), Texts.INDEX);
        Check.due("many() after a refused scan()", desk::many, 0);
        Check.due("scan(0)", () -> desk.scan(0), 1);
        Check.due("many() of an empty text", desk::many, 1);
        Texts.feed(desk, "x\n y\n".repeat(820));
        Check.due("feed()", () -> desk.feed(0, 0, 0, 0, 0), Texts.INDEX);
        Check.due("many() after a refused feed()", desk::many, 1);
        Check.due("scan(4096)", () -> desk.scan(4096), 4917);
        Check.due("many() of a full text", desk::many, 4917);
    }

    private static void leastAndMost() {
        Check.sentence("How many TOKENS there are: the least and the most");
        Check.due("an empty text", () -> Texts.scanned("").many(), 1);
        Check.due("blank lines", () -> Texts.scanned("\n \n# c\n").many(), 1);
        Check.due("signs alone", () -> Texts.scanned("-".repeat(4096)).many(), 4098);
        Check.due("lines in and out", () -> Texts.scanned("x\n y\n".repeat(818) + "x\n y+z").many(), 4917);
    }
}
