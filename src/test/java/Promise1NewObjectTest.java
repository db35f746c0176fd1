/** Promise 1: nothing is fed, no tokens; a call that throws changes nothing, but a wrong scan. */
public final class Promise1NewObjectTest {

    public static void main(String[] args) {
        newObjectIsEmpty();
        objectsShareNothing();
        throwingCallsChangeNothing();
        wrongScanChanges();
        Check.end("Promise1NewObjectTest");
    }

    private static void newObjectIsEmpty() {
        Check.due("new: many()", () -> new TokenDesk().many(), 0);
        Check.due("new: wrong()", () -> new TokenDesk().wrong(), -1);
        Check.due("new: token(0, 0)", () -> new TokenDesk().token(0, 0), Texts.INDEX);
        Check.due("new: scan(1)", () -> new TokenDesk().scan(1), Texts.INDEX);
        Check.due("new: scan(0)", () -> new TokenDesk().scan(0), 1);
        Check.due("new: feed()", () -> new TokenDesk().feed(0, 0, 0, 0, 0), 20);
    }

    private static void objectsShareNothing() {
        TokenDesk one = Texts.scanned("a b c");
        TokenDesk other = Texts.scanned("$");
        Check.due("one: many()", one::many, 5);
        Check.due("one: wrong()", one::wrong, -1);
        Check.due("other: many()", other::many, 0);
        Check.due("other: wrong()", other::wrong, 0);
    }

    private static void throwingCallsChangeNothing() {
        TokenDesk desk = Texts.scanned("a b c");
        Texts.feed(desk, "x".repeat(4100));
        Check.due("feed() of too much", () -> desk.feed(0, 0, 0, 0, 0), Texts.INDEX);
        Check.due("scan(-1)", () -> desk.scan(-1), Texts.INDEX);
        Check.due("scan(4097)", () -> desk.scan(4097), Texts.INDEX);
        Check.due("token(5, 0)", () -> desk.token(5, 0), Texts.INDEX);
        Check.due("token(0, 4)", () -> desk.token(0, 4), Texts.ARGUMENT);
        Check.due("many() after throws", desk::many, 5);
        Check.due("wrong() after throws", desk::wrong, -1);
        Check.due("token(1, 1) after throws", () -> desk.token(1, 1), 2);
        Check.due("scan(4096) after throws", () -> desk.scan(4096), 3);
        Check.due("token(0, 2) of what stayed fed", () -> desk.token(0, 2), 4096);
    }

    private static void wrongScanChanges() {
        TokenDesk desk = Texts.scanned("a b c");
        Texts.feed(desk, "a $");
        Check.due("scan() of a wrong text", () -> desk.scan(3), Texts.ARGUMENT);
        Check.due("many() after it", desk::many, 0);
        Check.due("wrong() after it", desk::wrong, 2);
        Check.due("feed() after it", () -> desk.feed(0, 0, 0, 0, 0), 20);
    }
}
