/** Promise 4: where the latest text was wrong, or -1. */
public final class Promise4WrongTest {

    public static void main(String[] args) {
        firstWrongCounts();
        latestTextCounts();
        everyPlace();
        Check.end("Promise4WrongTest");
    }

    private static void firstWrongCounts() {
        Check.due("nothing yet", () -> new TokenDesk().wrong(), -1);
        Check.due("only fed", () -> Texts.fed("$").wrong(), -1);
        Check.due("a right text", () -> Texts.scanned("x").wrong(), -1);
        Check.due("wrong at once", () -> Texts.scanned("$").wrong(), 0);
        Check.due("two wrongs", () -> Texts.scanned("x 07 $").wrong(), 2);
        Check.due("an open string before a wrong letter", () -> Texts.scanned("x 'a $").wrong(), 2);
        Check.due("a wrong level before a wrong number", () -> Texts.scanned("a\n  b\n c 07").wrong(), 7);
        Check.due("a bad octet behind all wrongs", () -> Texts.scanned(" $ 07 '\u007f").wrong(), 7);
        Check.due("a bad octet in a comment", () -> Texts.scanned("x # \t").wrong(), 4);
    }

    private static void latestTextCounts() {
        TokenDesk desk = Texts.scanned("a $");
        Check.due("wrong()", desk::wrong, 2);
        Check.due("wrong() again", desk::wrong, 2);
        Texts.feed(desk, "ab");
        Check.due("wrong() after feed()", desk::wrong, 2);
        Check.due("scan(21)", () -> desk.scan(21), Texts.INDEX);
        Check.due("wrong() after a refused scan()", desk::wrong, 2);
        Check.due("token(0, 0)", () -> desk.token(0, 0), Texts.INDEX);
        Check.due("wrong() after a refused token()", desk::wrong, 2);
        Check.due("scan(2)", () -> desk.scan(2), 3);
        Check.due("wrong() after a right text", desk::wrong, -1);
        Check.due("scan(1)", () -> desk.scan(1), Texts.INDEX);
        Check.due("wrong() is -1 as before", desk::wrong, -1);
    }

    private static void everyPlace() {
        for (int place = 0; place < 4096; place += 63) {
            String text = "x ".repeat(2048).substring(0, place) + "?" + " y".repeat(2048).substring(place + 1);
            Texts.dueWrong(text, place);
        }
    }
}
