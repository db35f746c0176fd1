/** Promise 3, names, keywords and signs; their kinds are those of promise 5. */
public final class Promise3WordsTest {

    private static final String[] KEYWORDS = ("False None True and as assert break class continue def"
        + " del elif else except finally for from global if import in is lambda nonlocal not or pass"
        + " raise return try while with yield async await").split(" ");
    private static final String[] SIGNS = ("**= //= <<= >>= += -= *= /= %= &= |= ^= ** // << >> -> + -"
        + " * / % & | ^ <= >= == != ~ < > ( ) [ ] { } , : . ; @ =").split(" ");

    public static void main(String[] args) {
        keywords();
        names();
        signs();
        signsAreLongest();
        otherLetters();
        Check.end("Promise3WordsTest");
    }

    private static void keywords() {
        for (int k = 0; k < KEYWORDS.length; k++) {
            String word = KEYWORDS[k];
            int end = word.length();
            Texts.dueTokens(word, (8 + k) + "@0-" + end + ":1 1@" + end + "-" + end + ":1 0@" + end + "-" + end + ":1");
            Texts.dueKinds(word + "x", "4 1 0");
            Texts.dueKinds("x" + word, "4 1 0");
            Texts.dueKinds(word + "_", "4 1 0");
            Texts.dueKinds(word + "1", "4 1 0");
            Texts.dueKinds(otherCase(word), "4 1 0");
            Texts.dueKinds(word + "." + word + "\n", (8 + k) + " 83 " + (8 + k) + " 1 0");
        }
        Check.due("last keyword", Integer.toString(8 + KEYWORDS.length - 1), "42");
        Texts.dueKinds("print match none exec self", "4 4 4 4 4 1 0");
    }

    private static String otherCase(String word) {
        char first = word.charAt(0);
        return (char) (first ^ 32) + word.substring(1);
    }

    private static void names() {
        Texts.dueTokens("_ a Z az09_AZ", "4@0-1:1 4@2-3:1 4@4-5:1 4@6-13:1 1@13-13:1 0@13-13:1");
        Texts.dueKinds("a+b", "4 60 4 1 0");
        Texts.dueKinds("__1", "4 1 0");
        for (char c = 'a'; c <= 'z'; c++) {
            Texts.dueKinds("" + c, "4 1 0");
            Texts.dueKinds("" + (char) (c - 32) + c, "4 1 0");
        }
    }

    private static void signs() {
        for (int k = 0; k < SIGNS.length; k++) {
            int end = SIGNS[k].length();
            Texts.dueTokens(SIGNS[k], (43 + k) + "@0-" + end + ":1 1@" + end + "-" + end + ":1 0@" + end + "-" + end + ":1");
            Texts.dueKinds("x" + SIGNS[k] + "y", "4 " + (43 + k) + " 4 1 0");
        }
        Check.due("last sign", Integer.toString(43 + SIGNS.length - 1), "86");
    }

    private static void signsAreLongest() {
        Texts.dueKinds("***", "55 62 1 0");
        Texts.dueKinds("****=", "55 43 1 0");
        Texts.dueKinds("///=", "56 50 1 0");
        Texts.dueKinds("<<<=", "57 68 1 0");
        Texts.dueKinds(">>>>=", "58 46 1 0");
        Texts.dueKinds("<>", "73 74 1 0");
        Texts.dueKinds("===", "70 86 1 0");
        Texts.dueKinds("!==", "71 86 1 0");
        Texts.dueKinds("->=", "59 86 1 0");
        Texts.dueKinds("--=", "61 48 1 0");
        Texts.dueKinds("-->", "61 59 1 0");
        Texts.dueKinds(":=", "82 86 1 0");
        Texts.dueKinds("@=", "85 86 1 0");
        Texts.dueKinds("~=", "72 86 1 0");
        Texts.dueKinds("...", "83 83 83 1 0");
        Texts.dueKinds("=>", "86 74 1 0");
        Texts.dueKinds("* *", "62 62 1 0");
        Texts.dueKinds("&& ||", "65 65 66 66 1 0");
    }

    private static void otherLetters() {
        for (String letter : new String[] {"!", "$", "?", "`", "\\"}) {
            Texts.dueWrong(letter, 0);
            Texts.dueWrong("x = " + letter + "y", 4);
            Texts.dueKinds("'" + letter + "a'", "7 1 0");
            Texts.dueKinds("# " + letter, "0");
        }
        Texts.dueWrong("! =", 0);
        Texts.dueWrong("a!b", 1);
    }
}
