/** Promise 3, what lines are: comments, lines that are none, joined lines, IN and OUT. */
public final class Promise3LinesTest {

    public static void main(String[] args) {
        octetsAreLookedAtFirst();
        linesEnd();
        commentsAndBlankLines();
        joinedByBackslash();
        joinedByBrackets();
        inAndOut();
        wrongLevels();
        Check.end("Promise3LinesTest");
    }

    private static void octetsAreLookedAtFirst() {
        for (int octet = 0; octet < 256; octet++) {
            boolean letter = octet == 10 || octet >= 32 && octet <= 126;
            String inComment = "#" + (char) octet;
            Check.due("octet " + octet, Texts.kinds(inComment), letter ? "0" : "wrong 1");
        }
        Texts.dueWrong("  $ '\t", 5);
        Texts.dueWrong("'a\u0080'", 2);
        Texts.dueWrong("\u00ff\u0000", 0);
        Texts.dueWrong("x\r\n", 1);
    }

    private static void linesEnd() {
        Texts.dueTokens("", "0@0-0:1");
        Texts.dueTokens("x", "4@0-1:1 1@1-1:1 0@1-1:1");
        Texts.dueTokens("x\n", "4@0-1:1 1@1-1:1 0@2-2:2");
        Texts.dueTokens("x \ny", "4@0-1:1 1@2-2:1 4@3-4:2 1@4-4:2 0@4-4:2");
        Texts.dueTokens("x;y\n", "4@0-1:1 84@1-2:1 4@2-3:1 1@3-3:1 0@4-4:2");
    }

    private static void commentsAndBlankLines() {
        Texts.dueTokens("# c", "0@3-3:1");
        Texts.dueTokens("\n\n  \n", "0@5-5:4");
        Texts.dueTokens("x # c\n", "4@0-1:1 1@5-5:1 0@6-6:2");
        Texts.dueTokens("x # c", "4@0-1:1 1@5-5:1 0@5-5:1");
        Texts.dueTokens("  # c\nx", "4@6-7:2 1@7-7:2 0@7-7:2");
        Texts.dueKinds("x\n   # c\ny\n", "4 1 4 1 0");
        Texts.dueKinds("x\n   \ny\n", "4 1 4 1 0");
        Texts.dueKinds("x\n y\n# c\n y\n", "4 1 2 4 1 4 1 3 0");
        Texts.dueKinds("# $ ' ?\nx", "4 1 0");
        Texts.dueKinds("'#'x", "7 4 1 0");
        Texts.dueKinds("'''\n#'''x", "7 4 1 0");
        // a 92 at a comment's end joins no lines
        Texts.dueTokens("x # \\\ny", "4@0-1:1 1@5-5:1 4@6-7:2 1@7-7:2 0@7-7:2");
        Texts.dueWrong("# \\\n x", 5);
    }

    private static void joinedByBackslash() {
        Texts.dueTokens("x \\\n  y\n", "4@0-1:1 4@6-7:2 1@7-7:2 0@8-8:3");
        Texts.dueTokens("a\\\nb", "4@0-1:1 4@3-4:2 1@4-4:2 0@4-4:2");
        Texts.dueKinds("1\\\nx", "5 4 1 0");
        Texts.dueKinds("*\\\n*", "62 62 1 0");
        Texts.dueTokens("x\\\n", "4@0-1:1 1@3-3:2 0@3-3:2");
        Texts.dueTokens("x\\\n\ny", "4@0-1:1 1@3-3:2 4@4-5:3 1@5-5:3 0@5-5:3");
        Texts.dueTokens("x\\\n# c\ny", "4@0-1:1 1@6-6:2 4@7-8:3 1@8-8:3 0@8-8:3");
        Texts.dueKinds("\\\n", "0");
        Texts.dueKinds("  \\\n  \nx", "4 1 0");
        Texts.dueKinds("  \\\n # c\nx", "4 1 0");
        // the blanks before the 92 tell how far in the line is
        Texts.dueKinds("\\\n   x", "4 1 0");
        Texts.dueWrong(" \\\nx", 3);
        Texts.dueTokens("x\n \\\n   \\\ny", "4@0-1:1 1@1-1:1 2@10-10:4 4@10-11:4 1@11-11:4 3@11-11:4 0@11-11:4");
        Texts.dueKinds("x\n  y\n  \\\n\\\nz", "4 1 2 4 1 4 1 3 0");
        Texts.dueKinds("x\n  y\n\\\n  z", "4 1 2 4 1 3 4 1 0");
        Texts.dueWrong("x\n  y\n \\\n  z", 11);
        // a 92 elsewhere is another letter
        Texts.dueWrong("x \\", 2);
        Texts.dueWrong("x \\ \n", 2);
        Texts.dueWrong("x \\# c\n", 2);
        Texts.dueWrong("(\\x)", 1);
        Texts.dueWrong("x\\\\\n", 1);
    }

    private static void joinedByBrackets() {
        Texts.dueTokens("(\n  x\n)\ny", "75@0-1:1 4@4-5:2 76@6-7:3 1@7-7:3 4@8-9:4 1@9-9:4 0@9-9:4");
        Texts.dueKinds("[\n]{\n}x", "77 78 79 80 4 1 0");
        Texts.dueKinds("(]\nx", "75 78 1 4 1 0");
        Texts.dueKinds("([)\nx)\ny", "75 77 76 4 76 1 4 1 0");
        Texts.dueKinds(")(\n)\nx", "76 75 76 1 4 1 0");
        Texts.dueKinds(")))\n(\nx)\ny", "76 76 76 1 75 4 76 1 4 1 0");
        Texts.dueKinds("(# )\n# c (\n\n x)\ny", "75 4 76 1 4 1 0");
        Texts.dueKinds("(')'\nx)\ny", "75 7 4 76 1 4 1 0");
        Texts.dueKinds("(x # \\\ny)", "75 4 4 76 1 0");
        Texts.dueTokens("(\n", "75@0-1:1 1@2-2:2 0@2-2:2");
        Texts.dueTokens("(\n x\n \n", "75@0-1:1 4@3-4:2 1@7-7:4 0@7-7:4");
        Texts.dueKinds("x\n y(\nz", "4 1 2 4 75 4 1 3 0");
    }

    private static void inAndOut() {
        Texts.dueTokens("if x:\n  y\nz", "26@0-2:1 4@3-4:1 82@4-5:1 1@5-5:1 2@8-8:2 4@8-9:2 1@9-9:2"
            + " 3@10-10:3 4@10-11:3 1@11-11:3 0@11-11:3");
        Texts.dueTokens("a\n b\n  c\n", "4@0-1:1 1@1-1:1 2@3-3:2 4@3-4:2 1@4-4:2 2@7-7:3 4@7-8:3 1@8-8:3"
            + " 3@9-9:4 3@9-9:4 0@9-9:4");
        Texts.dueKinds("a\n b\n  c\nd", "4 1 2 4 1 2 4 1 3 3 4 1 0");
        Texts.dueKinds("a\n    b\n     c\n    d", "4 1 2 4 1 2 4 1 3 4 1 3 0");
        Texts.dueKinds("a\n  b\nc\n b", "4 1 2 4 1 3 4 1 2 4 1 3 0");
        Texts.dueKinds("a\n b\n b", "4 1 2 4 1 4 1 3 0");
        Texts.dueTokens("a\n b\n\n# c\n", "4@0-1:1 1@1-1:1 2@3-3:2 4@3-4:2 1@4-4:2 3@10-10:5 0@10-10:5");
        Texts.dueKinds("a\n '''\n'''\n b", "4 1 2 7 1 4 1 3 0");
    }

    private static void wrongLevels() {
        Texts.dueWrong(" x", 1);
        Texts.dueWrong("\n# c\n  x\n", 7);
        Texts.dueWrong("a\n  b\n c\n", 7);
        Texts.dueWrong("a\n  b\n    c\n   d\n", 15);
        Texts.dueWrong("a\n  b\n 'c\n", 7);
        Texts.dueWrong("a\n  b\n c $", 7);
        Texts.dueWrong("a\n  b\nc\n d\n  e\n   $", 18);
    }
}
