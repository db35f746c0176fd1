/** Promise 7's sentence, and the limit of 512 calls that "What it is" names. */
public final class Promise7EdgesTest {

    private static final int CALLS = 512;

    public static void main(String[] args) {
        overA10BehindA92();
        feedsAndTokens();
        scansAlone();
        turnsOfFeedAndScan();
        refusedCallsAlone();
        Check.end("Promise7EdgesTest");
    }

    private static void overA10BehindA92() {
        Check.sentence("A STRING of one quote goes over a 10 that stands behind a 92");
        for (String prefix : new String[] {"", "r", "f", "rf", "fr"}) {
            int p = prefix.length();
            for (String q : new String[] {"'", "\""}) {
                String one = prefix + q;
                Texts.dueTokens(one + "\\\n" + q, "7@0-" + (p + 4) + ":1 1@" + (p + 4) + "-" + (p + 4) + ":2 0@" + (p + 4)
                    + "-" + (p + 4) + ":2");
                Texts.dueKinds(one + "a\\\n\\\n\\\nb" + q + "x", "7 4 1 0");
                Texts.dueKinds(one + "\\\\\\\n" + q, "7 1 0");
                Texts.dueKinds("x\n " + one + "\\\n" + q + "\n y", "4 1 2 7 1 4 1 3 0");
                Texts.dueKinds("(" + one + "\\\n" + q + "\n)", "75 7 76 1 0");
                Texts.dueWrong(one + "\n" + q, 0);
                Texts.dueWrong(one + "\\\n\n" + q, 0);
                Texts.dueWrong(one + "\\\n", 0);
                Texts.dueWrong(one + "\\\n\\" + q, 0);
                Texts.dueWrong(one + "\\\\\n" + q, 0);
                Texts.dueWrong(one + "\\ \n" + q, 0);
            }
        }
        Texts.dueKinds("'" + "\\\n".repeat(2047) + "'", "7 1 0");
        Texts.dueWrong("'" + "\\\n".repeat(2047) + "\\", 0);
    }

    private static void feedsAndTokens() {
        Check.sentence("An object is used for at most 512 calls: all of them answer as promised");
        TokenDesk desk = new TokenDesk();
        int calls = 0;
        for (int fed = 20; fed <= 4100; fed += 20, calls++) {
            Check.due("feed()", () -> desk.feed(0x2B2B2B2B, 0x2B2B2B2B, 0x2B2B2B2B, 0x2B2B2B2B, 0x2B2B2B2B), fed);
        }
        Check.due("scan(4096)", () -> desk.scan(4096), 4098);
        calls++;
        for (int k = 4097; calls < CALLS - 1; k--, calls++) {
            int token = k;
            Check.due("token(" + k + ", 1)", () -> desk.token(token, 1), Math.min(k, 4096));
        }
        Check.due("the 512th call: many()", desk::many, 4098);
    }

    private static void scansAlone() {
        TokenDesk desk = new TokenDesk();
        for (int call = 1; call < CALLS; call++) {
            Check.due("scan(0)", () -> desk.scan(0), 1);
        }
        Check.due("the 512th call: wrong()", desk::wrong, -1);
    }

    private static void turnsOfFeedAndScan() {
        TokenDesk desk = new TokenDesk();
        for (int turn = 1; turn <= CALLS / 2; turn++) {
            Check.due("feed() in turn " + turn, () -> desk.feed(0x780A2079, 0x24202020, 0, 0, 0), 20);
            if (turn % 2 == 0) {
                Check.due("scan(4) in turn " + turn, () -> desk.scan(4), 7);
            } else {
                Check.due("scan(5) in turn " + turn, () -> desk.scan(5), Texts.ARGUMENT);
            }
        }
    }

    private static void refusedCallsAlone() {
        TokenDesk desk = Texts.scanned("x $");
        for (int call = 3; call < CALLS - 1; call += 2) {
            Check.due("scan(1) as call " + call, () -> desk.scan(1), Texts.INDEX);
            Check.due("token(0, 0)", () -> desk.token(0, 0), Texts.INDEX);
        }
        Check.due("the 511th call: wrong()", desk::wrong, 2);
        Check.due("the 512th call: feed()", () -> desk.feed(0, 0, 0, 0, 0), 20);
    }
}
