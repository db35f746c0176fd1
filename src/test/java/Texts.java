/** Feeds texts to desks and tells what came of them. */
final class Texts {

    static final String INDEX = "IndexOutOfBoundsException";
    static final String ARGUMENT = "IllegalArgumentException";

    private static final int CALLS_OF_A_DESK = 512;

    private Texts() {
    }

    static TokenDesk fed(String text) {
        TokenDesk desk = new TokenDesk();
        feed(desk, text);
        return desk;
    }

    /** Feeds a text, filled up with octets 0 to a multiple of 20; answers the number of calls. */
    static int feed(TokenDesk desk, String text) {
        int calls = 0;
        for (int at = 0; at < text.length(); at += 20) {
            desk.feed(word(text, at), word(text, at + 4), word(text, at + 8), word(text, at + 12),
                word(text, at + 16));
            calls++;
        }
        return calls;
    }

    static int word(String text, int at) {
        int word = 0;
        for (int i = at; i < at + 4; i++) {
            word = word << 8 | (i < text.length() ? text.charAt(i) & 255 : 0);
        }
        return word;
    }

    static TokenDesk scanned(String text) {
        TokenDesk desk = fed(text);
        try {
            desk.scan(text.length());
        } catch (IllegalArgumentException e) {
            // what is wrong is asked of the desk
        }
        return desk;
    }

    /** The kinds of a text's tokens with a blank between two, or "wrong" and the place. */
    static String kinds(String text) {
        return told(text, false);
    }

    /** As kinds(), but of each token kind@first-behind:line. */
    static String tokens(String text) {
        return told(text, true);
    }

    private static String told(String text, boolean whole) {
        TokenDesk desk = scanned(text);
        if (desk.wrong() != -1) {
            return "wrong " + desk.wrong() + (desk.many() == 0 ? "" : " but many " + desk.many());
        }
        int callsToScan = (text.length() + 19) / 20 + 3;
        int calls = callsToScan;
        int many = desk.many();
        StringBuilder told = new StringBuilder();
        for (int k = 0; k < many; k++) {
            if (calls + 4 > CALLS_OF_A_DESK) {
                desk = scanned(text);
                calls = callsToScan;
            }
            told.append(k == 0 ? "" : " ").append(desk.token(k, 0));
            if (whole) {
                told.append('@').append(desk.token(k, 1)).append('-').append(desk.token(k, 2));
                told.append(':').append(desk.token(k, 3));
            }
            calls += 4;
        }
        return told.toString();
    }

    static void dueKinds(String text, String want) {
        Check.due(text, kinds(text), want);
    }

    static void dueTokens(String text, String want) {
        Check.due(text, tokens(text), want);
    }

    static void dueWrong(String text, int place) {
        Check.due(text, kinds(text), "wrong " + place);
    }

    static String shown(String text) {
        String line = text.replace("\\", "\\\\").replace("\n", "\\n");
        return line.length() <= 200 ? line : line.substring(0, 200) + "..";
    }
}
