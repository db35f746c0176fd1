/** Promise 3 by the terms' second paragraph, sentence by sentence: what TOKENS are and what is WRONG. */
public final class Promise3TokenTermsTest {

    private static final String LETTERS = "abcdefghijklmnopqrstuvwxyzABCDEFGHIJKLMNOPQRSTUVWXYZ_";
    private static final String DIGITS = "0123456789";
    private static final String KEYWORDS = "False None True and as assert break class continue def del elif else except"
        + " finally for from global if import in is lambda nonlocal not or pass raise return try while with yield async"
        + " await";

    public static void main(String[] args) {
        longest();
        names();
        keywords();
        ints();
        basedInts();
        underscores();
        reals();
        exponents();
        rightBehindANumber();
        prefixes();
        quotes();
        overA10();
        notClosed();
        behindA92();
        signs();
        otherLetters();
        Check.end("Promise3TokenTermsTest");
    }

    /** The text is one token of this kind and nothing else. */
    private static void isOne(int kind, String text) {
        int end = text.length();
        int line = 1 + (int) text.chars().filter(c -> c == '\n').count();
        String there = "@" + end + "-" + end + ":" + line;
        Texts.dueTokens(text, kind + "@0-" + end + ":1 1" + there + " 0" + there);
    }

    private static void allOf(int kind, String... texts) {
        for (String text : texts) {
            isOne(kind, text);
        }
    }

    /** Wrong at its first letter, wherever it stands. */
    private static void wrongAtFirst(String... texts) {
        for (String text : texts) {
            Texts.dueWrong(text, 0);
            Texts.dueWrong("x = " + text, 4);
            Texts.dueWrong("x\n y(" + text, 5);
        }
    }

    private static void longest() {
        Check.sentence("TOKENS, as long as can be");
        allOf(4, "ifelse", "in_", "isx", "r1");
        allOf(5, "1234567890", "0x12", "00");
        allOf(6, "1.5e5", "12.34", "1.");
        isOne(7, "''''''");
        allOf(43, "**=");
        Texts.dueKinds("***", "55 62 1 0");
        Texts.dueKinds("**==", "43 86 1 0");
        Texts.dueKinds("<<<", "57 73 1 0");
        Texts.dueKinds("<<=>>=", "45 46 1 0");
        Texts.dueKinds("===", "70 86 1 0");
        Texts.dueKinds("->>", "59 74 1 0");
        Texts.dueKinds("1..5", "6 6 1 0");
        Texts.dueKinds("rf'a'", "7 1 0");
    }

    private static void names() {
        Check.sentence("NAME: a-z A-Z _, then these and 0-9");
        for (char c = 32; c < 127; c++) {
            boolean begins = LETTERS.indexOf(c) >= 0;
            Check.due(c + " begins a name", Boolean.toString(Texts.kinds("" + c).equals("4 1 0")), Boolean.toString(begins));
            boolean goesOn = begins || DIGITS.indexOf(c) >= 0;
            boolean isOne = Texts.tokens("x" + c + "y").equals("4@0-3:1 1@3-3:1 0@3-3:1");
            Check.due(c + " goes on", Boolean.toString(isOne), Boolean.toString(goesOn));
        }
        isOne(4, LETTERS + DIGITS);
        isOne(4, "_".repeat(40));
        isOne(4, "_0");
    }

    private static void keywords() {
        Check.sentence("KEYWORDS are not NAMES");
        String[] words = KEYWORDS.split(" ");
        for (int k = 0; k < words.length; k++) {
            isOne(8 + k, words[k]);
            isOne(4, words[k] + "_");
            isOne(4, "_" + words[k]);
            isOne(4, words[k] + words[k]);
            isOne(4, words[k].substring(0, 1) + "0" + words[k].substring(1));
            boolean small = words[k].equals(words[k].toLowerCase());
            isOne(4, small ? words[k].toUpperCase() : words[k].toLowerCase());
        }
        allOf(4, "Fals", "awai", "a", "asser", "i", "n", "no", "o", "non", "nonloca", "yiel", "awaits", "print");
    }

    private static void ints() {
        Check.sentence("INT: digits, not 0 and then others than 0");
        allOf(5, "0", "00", "0000", "1", "9", "10", "100", "1234567890", "9".repeat(100), "0".repeat(100));
        wrongAtFirst("01", "07", "08", "09", "007", "010", "0".repeat(30) + "1");
    }

    private static void basedInts() {
        Check.sentence("or 0x, 0o, 0b (or X O B), perhaps _, and digits of that base, one at least");
        allOf(5, "0x0", "0X0", "0o0", "0O0", "0b0", "0B0", "0x0123456789abcdefABCDEF", "0o01234567", "0b01");
        allOf(5, "0x_0", "0X_f", "0o_7", "0O_0", "0b_1", "0B_0", "0x07", "0o07", "0b00");
        wrongAtFirst("0xg", "0xG", "0o8", "0o9", "0b2", "0b9", "0o18", "0b12", "0x1g", "0x1G", "0o1f", "0b1a");
        wrongAtFirst("00x1", "1x1", "0_x1", "0x.5", "0xx1");
        Check.sentence("as 0x without digits is");
        wrongAtFirst("0x", "0X", "0o", "0O", "0b", "0B", "0x_", "0o_", "0b_", "0x+1", "0b 1", "0x\n", "0x__1", "0b__1");
    }

    private static void underscores() {
        Check.sentence("a _ may be between two digits");
        allOf(5, "1_0", "1_2_3", "12_34", "0_0", "0_0_0", "0xf_F", "0x_f_F", "0o1_7", "0b1_0_1");
        wrongAtFirst("1_", "1__0", "1_2_", "1_2__3", "0_", "0__0", "0x1_", "0x1__1", "0b1_", "0b1_2", "0o7_8", "0xf_g");
        wrongAtFirst("0_1", "0_7", "0_0_1");
        isOne(4, "_1");
        isOne(4, "_1_0");
    }

    private static void reals() {
        Check.sentence("REAL: digits and a \".\" before, in or behind them");
        allOf(6, ".1", "1.1", "1.", ".0", "0.", "0.0", "00.", "07.", "07.5", ".07", "123.456", ".5", "09.9");
        Check.sentence("(not a \".\" alone)");
        isOne(83, ".");
        Texts.dueKinds("..", "83 83 1 0");
        Texts.dueKinds("...", "83 83 83 1 0");
        Texts.dueKinds(". 5", "83 5 1 0");
        Texts.dueKinds(".e5", "83 4 1 0");
        Texts.dueKinds("._5", "83 4 1 0");
        Texts.dueKinds("x.y", "4 83 4 1 0");
        Texts.dueKinds("1..", "6 83 1 0");
        Texts.dueKinds("1.2.3", "6 6 1 0");
        Check.sentence("(_ as in INTs)");
        allOf(6, "1_0.", ".1_0", "1_0.0_1", "1_0e1_0", "1e+1_0", "1.0_0e-0_9", "0_7.5");
        wrongAtFirst("1_.", "1._0", "1.0_", ".0_", "1.0__1", ".1__0", "1_e5", "1e_5", "1e5_", "1e5__5", "1e+_5", "1._");
    }

    private static void exponents() {
        Check.sentence("or an exponent (e or E, perhaps + -, digits), or both");
        allOf(6, "1e5", "1E5", "1e+5", "1E+5", "1e-5", "1E-5", "0e0", "00e00", "07e1", "1e00", "12e34");
        allOf(6, "1.e5", ".1e5", "1.5e5", "1.5E-5", "0.e0", ".0e+0");
        wrongAtFirst("1e", "1E", "1e+", "1e-", "1.e", ".1e", "1.5e", "1.5e+", "1e+-5", "1e++5", "1ee5", "1e+x", "1e 5");
        Texts.dueKinds("1e5.5", "6 6 1 0");
        Texts.dueKinds("1e5.", "6 83 1 0");
        Texts.dueKinds("0x1e+5", "5 60 5 1 0");
        Texts.dueKinds("1 e5", "5 4 1 0");
    }

    private static void rightBehindANumber() {
        Check.sentence("A number with a letter, digit or _ right behind it is WRONG at its first LETTER");
        for (String number : new String[] {"1", "0", "00", "0x1", "0o1", "0b1", "1.", ".1", "1.5", "1e5", "1.5e5"}) {
            for (char c : LETTERS.toCharArray()) {
                // the g, because with some letters the number itself goes on
                wrongAtFirst(number + c + "g");
            }
            Texts.dueKinds(number + " g", Texts.kinds(number).replace(" 1 0", " 4 1 0"));
            Texts.dueKinds(number + "'g'", Texts.kinds(number).replace(" 1 0", " 7 1 0"));
            Texts.dueKinds(number + "+g", Texts.kinds(number).replace(" 1 0", " 60 4 1 0"));
            Texts.dueKinds(number + "\\\ng", Texts.kinds(number).replace(" 1 0", " 4 1 0"));
            Texts.dueKinds(number + "#g", Texts.kinds(number));
        }
        wrongAtFirst("0b12", "0o78", "0b13", "1if", "1in x", "1j", "1L", "0xfor", "1r'a'", "1.x", "1.__a__", "1_a");
        Check.sentence("and 07");
        wrongAtFirst("07", "07 ", "07\n", "07+1", "07_1", "07x", "07'a'");
    }

    private static void prefixes() {
        Check.sentence("STRING: perhaps r, f, rf, fr");
        for (String prefix : new String[] {"", "r", "f", "rf", "fr"}) {
            allOf(7, prefix + "''", prefix + "\"\"", prefix + "'a'", prefix + "\"a\"", prefix + "'''a'''",
                prefix + "\"\"\"a\"\"\"");
        }
        for (String name : new String[] {"a", "b", "u", "rr", "ff", "rfr", "frf", "br", "R", "F", "Rf", "fR", "x", "_"}) {
            Texts.dueKinds(name + "'a'", "4 7 1 0");
        }
        Texts.dueKinds("r 'a'", "4 7 1 0");
        Texts.dueKinds("r", "4 1 0");
        Texts.dueKinds("rf", "4 1 0");
    }

    private static void quotes() {
        Check.sentence("' or \", or three of one; up to the same again");
        for (String q : new String[] {"'", "\""}) {
            String other = q.equals("'") ? "\"" : "'";
            String three = q.repeat(3);
            for (char c = 32; c < 127; c++) {
                boolean plain = c != q.charAt(0) && c != '\\';
                String inside = plain ? ("" + c).repeat(3) : "";
                allOf(7, q + inside + q, three + inside + three);
            }
            allOf(7, q + q, q + other + q, q + other.repeat(3) + q, q + "a" + other + "b" + q);
            allOf(7, three + three, three + q + "a" + three, three + "a" + q + q + "b" + three, three + "\n\n" + three);
            allOf(7, three + other.repeat(3) + three, three + q + " " + three, three + q + q + " " + three);
            Texts.dueKinds(q + "a" + q + q + "b" + q, "7 7 1 0");
            Texts.dueKinds(q + q + " " + q + q, "7 7 1 0");
            // three close it at once, even if a fourth follows
            Texts.dueWrong(three + "a" + three + q, 7);
            Texts.dueKinds(three + "a" + three + q + q, "7 7 1 0");
            Texts.dueKinds(three + three + q + q, "7 7 1 0");
            wrongAtFirst(q + "a" + other, three + "a" + q + q, three + "a" + other.repeat(3));
        }
    }

    private static void overA10() {
        Check.sentence("of one: not over a 10, but one behind a 92 (WRONG at its first LETTER");
        for (String prefix : new String[] {"", "r", "f", "rf", "fr"}) {
            for (String q : new String[] {"'", "\""}) {
                allOf(7, prefix + q + "\\\n" + q, prefix + q + "a\\\n\\\nb" + q);
                wrongAtFirst(prefix + q + "\n" + q, prefix + q + "a\nb" + q, prefix + q + "\\\n\n" + q);
                wrongAtFirst(prefix + q + "\\ \n" + q, prefix + q + "\\\\\n" + q);
                allOf(7, prefix + q.repeat(3) + "\n" + q.repeat(3), prefix + q.repeat(3) + "\\\n" + q.repeat(3));
            }
        }
    }

    private static void notClosed() {
        Check.sentence("also if it is not closed)");
        for (String prefix : new String[] {"", "r", "f", "rf", "fr"}) {
            for (String q : new String[] {"'", "\""}) {
                wrongAtFirst(prefix + q, prefix + q + "a", prefix + q + "a b # c", prefix + q + "\\", prefix + q + "\\" + q);
                String three = prefix + q.repeat(3);
                wrongAtFirst(three, three + q, three + q + q, three + "a\nb\n", three + "a" + q + q, three + "\\");
                wrongAtFirst(three + "\\" + q + q + q, three + q + "\n" + q + q);
            }
        }
        Texts.dueWrong("'a' 'b", 4);
        Texts.dueWrong("'''a''' '''\n\n", 8);
    }

    private static void behindA92() {
        Check.sentence("what is behind a 92 does not close it");
        for (String prefix : new String[] {"", "r", "f", "rf", "fr"}) {
            for (String q : new String[] {"'", "\""}) {
                String one = prefix + q;
                String three = q.repeat(3);
                allOf(7, one + "\\" + q + q, one + "\\\\" + q, one + "\\\\\\" + q + q, one + "\\a" + q);
                allOf(7, prefix + three + "\\" + q + three, prefix + three + "\\\\" + three);
                Texts.dueKinds(prefix + three + "\\" + three + three, "7 7 1 0");
                allOf(7, prefix + three + q + "\\" + q + q + " " + three);
                wrongAtFirst(one + "\\" + q, one + "\\\\\\" + q, prefix + three + "\\" + three);
            }
        }
    }

    private static void signs() {
        Check.sentence("SIGNS");
        String[] signs = ("**= //= <<= >>= += -= *= /= %= &= |= ^= ** // << >> -> + - * / % & | ^ <= >= == != ~ < > ( ) [ ]"
            + " { } , : . ; @ =").split(" ");
        for (int k = 0; k < signs.length; k++) {
            isOne(43 + k, signs[k]);
            Texts.dueKinds("x" + signs[k] + "y", "4 " + (43 + k) + " 4 1 0");
            Texts.dueKinds("x " + signs[k] + " y\n", "4 " + (43 + k) + " 4 1 0");
        }
        // signs of other languages are two or more of these
        Texts.dueKinds(":=", "82 86 1 0");
        Texts.dueKinds("@=", "85 86 1 0");
        Texts.dueKinds("~=", "72 86 1 0");
        Texts.dueKinds("<>", "73 74 1 0");
        Texts.dueKinds("++", "60 60 1 0");
        Texts.dueKinds("<-", "73 61 1 0");
    }

    private static void otherLetters() {
        Check.sentence("Another LETTER is WRONG");
        for (String letter : new String[] {"!", "$", "?", "`", "\\"}) {
            wrongAtFirst(letter, letter + " ", letter + "x", letter + letter);
            Texts.dueWrong("x" + letter, 1);
            Texts.dueWrong("(\n" + letter, 2);
            Texts.dueWrong("1" + letter, 1);
            Texts.dueWrong("''" + letter, 2);
        }
        Texts.dueKinds("!=", "71 1 0");
        Texts.dueWrong("! =", 0);
        Texts.dueWrong("=!", 1);
        Texts.dueWrong("!!=", 0);
    }
}
