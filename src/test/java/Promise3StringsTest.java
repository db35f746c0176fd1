/** Promise 3, STRINGs, and those that are wrong. */
public final class Promise3StringsTest {

    public static void main(String[] args) {
        for (String quote : new String[] {"'", "\""}) {
            ofOneQuote(quote, quote.equals("'") ? "\"" : "'");
            ofThree(quote, quote.equals("'") ? "\"" : "'");
            unclosed(quote);
        }
        prefixes();
        neighbours();
        Check.end("Promise3StringsTest");
    }

    private static void dueString(String string) {
        int end = string.length();
        String from = end + "-" + end;
        long feeds = string.chars().filter(c -> c == '\n').count() + 1;
        Texts.dueTokens(string, "7@0-" + end + ":1 1@" + from + ":" + feeds + " 0@" + from + ":" + feeds);
    }

    private static void ofOneQuote(String q, String other) {
        dueString(q + q);
        dueString(q + "a" + q);
        dueString(q + "a # b" + other + q);
        dueString(q + "\\" + q + q);
        dueString(q + "\\\\" + q);
        dueString(q + "\\\\\\" + q + q);
        dueString(q + "\\n" + q);
        dueString(q + other + other + other + q);
        Texts.dueKinds(q + "a" + q + q + "b" + q, "7 7 1 0");
        Texts.dueKinds(q + q + " " + q, "wrong 3");
        Texts.dueKinds(q + "\\\\" + q + q + q, "7 7 1 0");
    }

    private static void ofThree(String q, String other) {
        String three = q + q + q;
        dueString(three + three);
        dueString(three + "a" + three);
        dueString(three + "a\n\nb#" + three);
        dueString(three + q + "a" + q + q + "b" + three);
        dueString(three + "\\" + q + three);
        Texts.dueKinds(three + "\\" + three + three, "7 7 1 0");
        dueString(three + "\\\\" + three);
        dueString(three + "\\\n" + three);
        dueString(three + other + other + other + three);
        dueString(three + "\n$" + three);
        Texts.dueKinds(three + "a" + three + q + q, "7 7 1 0");
        Texts.dueWrong(three + "a" + three + q, 7);
        Texts.dueTokens(three + "\n" + three + "x", "7@0-7:1 4@7-8:2 1@8-8:2 0@8-8:2");
    }

    private static void unclosed(String q) {
        String three = q + q + q;
        for (String prefix : new String[] {"", "r", "f", "rf", "fr"}) {
            for (String rest : new String[] {"", "a", "\n", "a\n", "a\n" + q, "\\", "\\" + q, "\\\\\n" + q, "a\\"}) {
                Texts.dueWrong(prefix + q + rest, 0);
                Texts.dueWrong("x = " + prefix + q + rest, 4);
            }
            for (String rest : new String[] {"", "a", q, "a" + q + q, "\\" + three, "\n", q + "\\" + q + q, "\\"}) {
                Texts.dueWrong(prefix + three + rest, 0);
                Texts.dueWrong("x\n" + prefix + three + rest, 2);
            }
        }
    }

    private static void prefixes() {
        for (String prefix : new String[] {"r", "f", "rf", "fr"}) {
            dueString(prefix + "'a'");
            dueString(prefix + "\"\"");
            dueString(prefix + "'''a\n'''");
            dueString(prefix + "'\\''");
            dueString(prefix + "'\\\\'");
        }
        for (String name : new String[] {"b", "u", "R", "F", "rR", "rr", "ff", "Rf", "rF", "rfr", "frf", "br", "rb",
            "xr", "_f", "r1", "rf1"}) {
            int end = name.length();
            Texts.dueTokens(name + "'a'", "4@0-" + end + ":1 7@" + end + "-" + (end + 3) + ":1 1@" + (end + 3) + "-"
                + (end + 3) + ":1 0@" + (end + 3) + "-" + (end + 3) + ":1");
        }
        Texts.dueKinds("r f rf fr", "4 4 4 4 1 0");
        Texts.dueKinds("r 'a'", "4 7 1 0");
        Texts.dueKinds("if'a'", "26 7 1 0");
        Texts.dueKinds("for'a'", "23 7 1 0");
    }

    private static void neighbours() {
        Texts.dueKinds("'a'b", "7 4 1 0");
        Texts.dueKinds("'a'1", "7 5 1 0");
        Texts.dueKinds("'a'r'b'", "7 7 1 0");
        Texts.dueKinds("'a'\"b\"", "7 7 1 0");
        Texts.dueKinds("'a''b'", "7 7 1 0");
        Texts.dueKinds("f'{x}'", "7 1 0");
        Texts.dueKinds("'('\nx", "7 1 4 1 0");
        // as the shared runs have it: a raw string's quote behind a 92 does not close it either
        Texts.dueWrong("s = 'it\\'s' r'\\' + \"\n", 12);
    }
}
