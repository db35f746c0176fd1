/** Promise 2, sentence by sentence. */
public final class Promise2EdgesTest {

    private static final int FULL = 4100;
    private static final int BLANKS = 0x20202020;

    public static void main(String[] args) {
        highestFirst();
        comesToWhatIsFed();
        howManyAre();
        noMoreThan4100();
        Check.end("Promise2EdgesTest");
    }

    /** A bad octet at one place tells by wrong() where it came to stand. */
    private static void highestFirst() {
        Check.sentence("20 octets, four of a first, the highest one first");
        for (int octet : new int[] {0, 9, 31, 127, 128, 255}) {
            for (int place = 0; place < 20; place++) {
                int[] words = {BLANKS, BLANKS, BLANKS, BLANKS, BLANKS};
                int shift = 24 - 8 * (place % 4);
                words[place / 4] = BLANKS & ~(255 << shift) | octet << shift;
                TokenDesk desk = new TokenDesk();
                Check.due("feed()", () -> feed(desk, words), 20);
                Check.due("scan(20)", () -> desk.scan(20), Texts.ARGUMENT);
                Check.due("wrong() of octet " + octet, desk::wrong, place);
            }
        }
        TokenDesk desk = new TokenDesk();
        desk.feed(0x61622063, 0x20646566, 0x20676869, 0x206A2020, 0x206B6C6D);
        Check.due("scan(20)", () -> desk.scan(20), 8);
        int[] places = {0, 2, 3, 4, 5, 8, 9, 12, 13, 14, 17, 20};
        for (int i = 0; i < places.length; i++) {
            int k = i / 2;
            int what = 1 + i % 2;
            Check.due("token(" + k + ", " + what + ")", () -> desk.token(k, what), places[i]);
        }
    }

    private static int feed(TokenDesk desk, int[] words) {
        return desk.feed(words[0], words[1], words[2], words[3], words[4]);
    }

    private static void comesToWhatIsFed() {
        Check.sentence("come to what is fed");
        TokenDesk desk = new TokenDesk();
        Texts.feed(desk, "a".repeat(20));
        Texts.feed(desk, "b".repeat(20));
        Check.due("scan(40)", () -> desk.scan(40), 3);
        Check.due("one name over two feeds", () -> desk.token(0, 2), 40);
        Texts.feed(desk, "'" + "a".repeat(18) + "\\");
        Texts.feed(desk, "'".repeat(2) + " ".repeat(18));
        Check.due("scan(22)", () -> desk.scan(22), 3);
        Check.due("one string over two feeds", () -> desk.token(0, 2), 22);
    }

    private static void howManyAre() {
        Check.sentence("how many octets are");
        TokenDesk desk = new TokenDesk();
        for (int fed = 20; fed <= FULL; fed += 20) {
            Check.due("feed()", () -> desk.feed(BLANKS, -1, Integer.MIN_VALUE, Integer.MAX_VALUE, 0), fed);
        }
        Check.due("scan(4)", () -> desk.scan(4), 1);
        Check.due("feed() after a right text", () -> desk.feed(0, 0, 0, 0, 0), 20);
        Check.due("feed()", () -> desk.feed(0, 0, 0, 0, 0), 40);
        Check.due("scan(40)", () -> desk.scan(40), Texts.ARGUMENT);
        Check.due("feed() after a wrong text", () -> desk.feed(0, 0, 0, 0, 0), 20);
        Check.due("scan(0)", () -> desk.scan(0), 1);
        Check.due("feed() after an empty text", () -> desk.feed(0, 0, 0, 0, 0), 20);
    }

    private static void noMoreThan4100() {
        Check.sentence("IndexOutOfBoundsException: there would be more than 4,100");
        TokenDesk desk = Texts.scanned("a b");
        Texts.feed(desk, "x".repeat(FULL - 20));
        Check.due("feed() to 4,100", () -> desk.feed(0x79797979, 0x79797979, 0x79797979, 0x7979797A, 0x24242424), FULL);
        for (int i = 0; i < 3; i++) {
            Check.due("feed() above 4,100", () -> desk.feed(BLANKS, BLANKS, BLANKS, BLANKS, BLANKS), Texts.INDEX);
        }
        Check.due("many() is as before", desk::many, 4);
        Check.due("wrong() is as before", desk::wrong, -1);
        Check.due("scan(4096): what was fed stayed", () -> desk.scan(4096), 3);
        Check.due("token(0, 2): all of it", () -> desk.token(0, 2), 4096);
        Check.due("feed() is possible again", () -> desk.feed(BLANKS, BLANKS, BLANKS, BLANKS, BLANKS), 20);
        Refusals.ofFeed();
    }
}
