/** Compares the desk with the Oracle over all short texts of few letters and over many made ones. */
public final class OracleTest {

    private static final String[] WELL_MADE = {"x", "y1", "if", "else", "0", "12", "1.5", "0x1F", "1e5", "'a'", "\"b\"",
        "'''c\n'''", "r'\\n'", "(", ")", "[", "]", "{", "}", "+", "**=", "->", "==", ".", ",", ":", "# c", "\\\n", "\n"};
    private static final String[] WILD = {"'", "\"", "'''", "\\", "\n", " ", "  ", "#", "(", ")", "0", "7", "_", "e", ".",
        "+", "r", "f", "x", "0x", "0b", "*", "=", "<", ">", "!", "$", "/"};

    private static long seed = 20261115;

    public static void main(String[] args) {
        allTexts("01_.e+x", 6);
        allTexts("'\"\\\nrfa", 6);
        allTexts(" x\n\\(]#", 6);
        allTexts("*/<>=-!", 4);
        for (int i = 0; i < 4000; i++) {
            compare(joined(WELL_MADE, 1 + next(40), true));
            compare(joined(WILD, 1 + next(12), false));
            compare(blocks(1 + next(14)));
        }
        for (int i = 0; i < 20; i++) {
            compare(cut(joined(WELL_MADE, 2000, true), 4096));
            compare(cut(joined(WELL_MADE, 2500, false), 4096));
            compare(cut(blocks(900), 4096));
        }
        Check.end("OracleTest");
    }

    private static void compare(String text) {
        Check.due(text, Texts.tokens(text), Oracle.tokens(text));
    }

    private static void allTexts(String letters, int most) {
        for (int length = 0; length <= most; length++) {
            int texts = (int) Math.round(Math.pow(letters.length(), length));
            for (int number = 0; number < texts; number++) {
                StringBuilder text = new StringBuilder();
                for (int rest = number, i = 0; i < length; i++, rest /= letters.length()) {
                    text.append(letters.charAt(rest % letters.length()));
                }
                compare(text.toString());
            }
        }
    }

    private static String joined(String[] pieces, int many, boolean blanks) {
        StringBuilder text = new StringBuilder();
        for (int i = 0; i < many; i++) {
            String piece = pieces[next(pieces.length)];
            // a blank behind a 10 would mostly make a wrong level, a comment must end
            boolean apart = blanks && text.length() > 0 && text.charAt(text.length() - 1) != '\n';
            text.append(apart ? " " : "").append(piece).append(piece.startsWith("# ") ? "\n" : "");
        }
        return text.toString();
    }

    private static String blocks(int lines) {
        String[] ends = {"\n", "\n", "\n", " # c\n", "\n\n", " \\\n z\n", "(\n)\n"};
        StringBuilder text = new StringBuilder("x\n");
        int in = 0;
        for (int i = 0; i < lines; i++) {
            in = Math.max(0, in + 2 * (next(4) - 2) + (next(60) == 0 ? 1 : 0));
            text.append(" ".repeat(in)).append(next(8) == 0 ? "\\\n  y" : "y").append(ends[next(ends.length)]);
        }
        return text.toString();
    }

    private static String cut(String text, int most) {
        return text.length() <= most ? text : text.substring(0, most);
    }

    /** The same numbers in every run. */
    private static int next(int bound) {
        seed = seed * 6364136223846793005L + 1442695040888963407L;
        return (int) ((seed >>> 33) % bound);
    }
}
