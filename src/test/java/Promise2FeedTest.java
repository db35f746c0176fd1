/** Promise 2: 20 octets a call, the highest of each number first; 4,100 at most. */
public final class Promise2FeedTest {

    public static void main(String[] args) {
        octetsComeInOrder();
        everyOctetMayBeFed();
        atMost4100();
        feedingLeavesTokens();
        Check.end("Promise2FeedTest");
    }

    private static void octetsComeInOrder() {
        TokenDesk desk = new TokenDesk();
        Check.due("feed()", () -> desk.feed(0x2B2D2A2F, 0x25265E7C, 0x7E3C3E28, 0x295B5D7B, 0x7D2C3A2E), 20);
        Check.due("feed() again", () -> desk.feed(0x3B404142, 0, 0, 0, 0), 40);
        Check.due("scan(24)", () -> desk.scan(24), 25);
        int[] kinds = {60, 61, 62, 63, 64, 65, 67, 66, 72, 73, 74, 75, 76, 77, 78, 79, 80, 81, 82, 83,
            84, 85, 4, 1, 0};
        for (int k = 0; k < kinds.length; k++) {
            int place = k;
            Check.due("token(" + k + ", 0)", () -> desk.token(place, 0), kinds[k]);
        }
    }

    private static void everyOctetMayBeFed() {
        for (int octet = 0; octet < 256; octet++) {
            int word = octet << 24 | octet << 16 | octet << 8 | octet;
            Check.due("feed() of octet " + octet, () -> new TokenDesk().feed(word, word, word, word, word), 20);
        }
    }

    private static void atMost4100() {
        TokenDesk desk = new TokenDesk();
        for (int fed = 20; fed <= 4100; fed += 20) {
            Check.due("feed() to " + fed, () -> desk.feed(0x20202020, 0, -1, 7, 8), fed);
        }
        Check.due("feed() above 4,100", () -> desk.feed(0, 0, 0, 0, 0), Texts.INDEX);
        Check.due("feed() above 4,100 again", () -> desk.feed(1, 2, 3, 4, 5), Texts.INDEX);
        Check.due("scan(4)", () -> desk.scan(4), 1);
        Check.due("feed() after scan()", () -> desk.feed(0x78787878, 0, 0, 0, 0), 20);
        Check.due("scan(4) of what is new", () -> desk.scan(4), 3);
    }

    private static void feedingLeavesTokens() {
        TokenDesk desk = Texts.scanned("a b");
        desk.feed(-1, -1, -1, -1, -1);
        Check.due("many() after feed()", desk::many, 4);
        Check.due("token(1, 1) after feed()", () -> desk.token(1, 1), 2);
        Check.due("wrong() after feed()", desk::wrong, -1);
    }
}
