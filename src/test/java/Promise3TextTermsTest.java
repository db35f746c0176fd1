/** Promise 3 by the terms' first paragraph, sentence by sentence: THE TEXT, LINES, IN, OUT, EOL, END. */
public final class Promise3TextTermsTest {

    public static void main(String[] args) {
        upTo4096();
        otherOctets();
        octetsFirst();
        linesEnd();
        comments();
        blankLines();
        joinedBy92();
        inByTheBlanksBeforeThe92();
        joinedByBrackets();
        bracketsNotBelow0();
        in();
        out();
        inByWhatNoneIs();
        firstLine();
        eolAndEnd();
        Check.end("Promise3TextTermsTest");
    }

    private static void upTo4096() {
        Check.sentence("THE TEXT: up to 4,096 LETTERS");
        Texts.dueTokens("x".repeat(4096), "4@0-4096:1 1@4096-4096:1 0@4096-4096:1");
        Texts.dueTokens(" ".repeat(4096), "0@4096-4096:1");
        Texts.dueTokens("\n".repeat(4095) + "x", "4@4095-4096:4096 1@4096-4096:4096 0@4096-4096:4096");
        Texts.dueTokens("'" + "a".repeat(4094) + "'", "7@0-4096:1 1@4096-4096:1 0@4096-4096:1");
        Texts.dueWrong("'" + "a".repeat(4095), 0);
        Texts.dueWrong("x".repeat(4095) + "$", 4095);
        Texts.dueWrong("x".repeat(4095) + "\u0001", 4095);
    }

    private static void otherOctets() {
        Check.sentence("10 or 32..126 (another octet is WRONG");
        for (int octet = 0; octet < 256; octet++) {
            boolean letter = octet == 10 || octet >= 32 && octet <= 126;
            char c = (char) octet;
            Check.due("octet " + octet + " in a comment", Texts.kinds("#" + c + "#"), letter ? "0" : "wrong 1");
            Check.due("octet " + octet + " in a string", Texts.kinds("'''a\\" + c + "'''"), letter ? "7 1 0" : "wrong 5");
        }
        Texts.dueKinds("~", "72 1 0");
        Texts.dueWrong("\u007f", 0);
        Texts.dueKinds(" ", "0");
        Texts.dueWrong("\u001f", 0);
        Texts.dueKinds("\n", "0");
        Texts.dueWrong("\t", 0);
        Texts.dueWrong("\u000b", 0);
        Texts.dueWrong("x\r\n", 1);
        Texts.dueWrong("x\u00e4", 1);
    }

    private static void octetsFirst() {
        Check.sentence("looked at before anything else)");
        Texts.dueWrong(" x\u0001", 2);
        Texts.dueWrong("$\u0001", 1);
        Texts.dueWrong("07 \u0080", 3);
        Texts.dueWrong("'a\n\u00ff", 3);
        Texts.dueWrong("a\n  b\n c\u0000", 8);
        Texts.dueWrong("$ # \t", 4);
        Texts.dueWrong("'''\u0001\u0002", 3);
        Texts.dueWrong("\u0001\u0002", 0);
        Texts.dueWrong("a \u0080 b \u0081", 2);
        Texts.dueWrong("$" + "x".repeat(4094) + "\u007f", 4095);
    }

    private static void linesEnd() {
        Check.sentence("LINES end with 10 (the last one perhaps not)");
        Texts.dueTokens("x\n", "4@0-1:1 1@1-1:1 0@2-2:2");
        Texts.dueTokens("x", "4@0-1:1 1@1-1:1 0@1-1:1");
        Texts.dueTokens("x\ny\n", "4@0-1:1 1@1-1:1 4@2-3:2 1@3-3:2 0@4-4:3");
        Texts.dueTokens("x\ny", "4@0-1:1 1@1-1:1 4@2-3:2 1@3-3:2 0@3-3:2");
        Texts.dueTokens("x\n y", "4@0-1:1 1@1-1:1 2@3-3:2 4@3-4:2 1@4-4:2 3@4-4:2 0@4-4:2");
    }

    private static void comments() {
        Check.sentence("\"#\" begins what is nothing, to the next 10");
        Texts.dueTokens("#", "0@1-1:1");
        Texts.dueTokens("##\n#", "0@4-4:2");
        Texts.dueTokens("x#", "4@0-1:1 1@2-2:1 0@2-2:1");
        Texts.dueTokens("x#y\nz", "4@0-1:1 1@3-3:1 4@4-5:2 1@5-5:2 0@5-5:2");
        Texts.dueKinds("x # $ ? ` ! 07 0x ' \" ''' \\ (\ny", "4 1 4 1 0");
        Texts.dueKinds("(x # )\n)\ny", "75 4 76 1 4 1 0");
        Check.sentence("(a 92 before that joins no LINES)");
        Texts.dueTokens("x#\\\ny", "4@0-1:1 1@3-3:1 4@4-5:2 1@5-5:2 0@5-5:2");
        Texts.dueKinds("#\\\nx", "4 1 0");
        Texts.dueWrong("x # \\\n  y\n z", 11);
        Texts.dueKinds("x # \\\n  y", "4 1 2 4 1 3 0");
        Texts.dueKinds("(#\\\n)", "75 76 1 0");
        Check.sentence("but in a STRING");
        Texts.dueKinds("'#'", "7 1 0");
        Texts.dueKinds("\"#\" x", "7 4 1 0");
        Texts.dueKinds("'''#\n#'''", "7 1 0");
        Texts.dueKinds("'#\\\n' x", "7 4 1 0");
        Texts.dueKinds("'a' # '\nx", "7 1 4 1 0");
    }

    private static void blankLines() {
        Check.sentence("A LINE that then has nothing but blanks (32) is none");
        Texts.dueTokens("\n", "0@1-1:2");
        Texts.dueTokens("   \n", "0@4-4:2");
        Texts.dueTokens("  ", "0@2-2:1");
        Texts.dueTokens("  # c", "0@5-5:1");
        Texts.dueKinds("  \nx", "4 1 0");
        Texts.dueKinds("   # c\nx", "4 1 0");
        Texts.dueKinds("x\n     \ny", "4 1 4 1 0");
        Texts.dueKinds("x\n     # c\ny", "4 1 4 1 0");
        Texts.dueKinds("x\n  y\n\n  z", "4 1 2 4 1 4 1 3 0");
        Texts.dueKinds("x\n  y\n# c\n  z", "4 1 2 4 1 4 1 3 0");
        Texts.dueKinds("x\n  y\n \n  z", "4 1 2 4 1 4 1 3 0");
        Texts.dueKinds("x\n  y\n # c\n  z", "4 1 2 4 1 4 1 3 0");
        Texts.dueKinds("x\n  y\n ", "4 1 2 4 1 3 0");
        Texts.dueTokens("x\n  y\n   # c", "4@0-1:1 1@1-1:1 2@4-4:2 4@4-5:2 1@5-5:2 3@12-12:3 0@12-12:3");
        // joined ones that have nothing but blanks are none either
        Texts.dueKinds("  \\\n  \nx", "4 1 0");
        Texts.dueKinds("x\n  \\\n  # c\ny", "4 1 4 1 0");
        Texts.dueTokens("\\\n", "0@2-2:2");
    }

    private static void joinedBy92() {
        Check.sentence("LINES are one where a 92 stands before the 10");
        Texts.dueTokens("x\\\ny", "4@0-1:1 4@3-4:2 1@4-4:2 0@4-4:2");
        Texts.dueKinds("x\\\n   y\nz", "4 4 1 4 1 0");
        Texts.dueKinds("x\n  y\\\nz\n  u", "4 1 2 4 4 1 4 1 3 0");
        Texts.dueTokens("x\\\n\\\n\\\ny\n", "4@0-1:1 4@7-8:4 1@8-8:4 0@9-9:5");
        Texts.dueTokens("x\\\n\ny", "4@0-1:1 1@3-3:2 4@4-5:3 1@5-5:3 0@5-5:3");
        Texts.dueTokens("x\\\n#c\ny", "4@0-1:1 1@5-5:2 4@6-7:3 1@7-7:3 0@7-7:3");
        Texts.dueTokens("x\\\n", "4@0-1:1 1@3-3:2 0@3-3:2");
        Texts.dueKinds("1\\\n2", "5 5 1 0");
        Texts.dueKinds("*\\\n*\\\n=", "62 62 86 1 0");
        Texts.dueWrong("x\\", 1);
        Texts.dueWrong("x\\ \n", 1);
        Texts.dueWrong("x\\\\\n", 1);
        Texts.dueWrong("\\x\n", 0);
    }

    private static void inByTheBlanksBeforeThe92() {
        Check.sentence("(IN by the blanks before the 92 if it begins so)");
        Texts.dueTokens("x\n  \\\ny", "4@0-1:1 1@1-1:1 2@6-6:3 4@6-7:3 1@7-7:3 3@7-7:3 0@7-7:3");
        Texts.dueKinds("x\n  y\n  \\\nz", "4 1 2 4 1 4 1 3 0");
        Texts.dueKinds("x\n  y\n  \\\n      z", "4 1 2 4 1 4 1 3 0");
        Texts.dueKinds("x\n  y\n\\\n  z", "4 1 2 4 1 3 4 1 0");
        Texts.dueKinds("\\\n    x", "4 1 0");
        Texts.dueKinds("x\n \\\n   \\\n      y\n z", "4 1 2 4 1 4 1 3 0");
        Texts.dueWrong("  \\\nx", 4);
        Texts.dueWrong("x\n  y\n \\\n  z", 11);
    }

    private static void joinedByBrackets() {
        Check.sentence("and where a ( [ { is open");
        Texts.dueTokens("(\n  x\n)\ny", "75@0-1:1 4@4-5:2 76@6-7:3 1@7-7:3 4@8-9:4 1@9-9:4 0@9-9:4");
        Texts.dueKinds("[\nx\n]\ny", "77 4 78 1 4 1 0");
        Texts.dueKinds("{\nx\n}\ny", "79 4 80 1 4 1 0");
        Texts.dueKinds("x\n  (\ny\n )\n  z", "4 1 2 75 4 76 1 4 1 3 0");
        Texts.dueKinds("(\n\n  # c (\n   \nx)\ny", "75 4 76 1 4 1 0");
        Texts.dueTokens("(\n", "75@0-1:1 1@2-2:2 0@2-2:2");
        Texts.dueTokens("x\n [\n\n", "4@0-1:1 1@1-1:1 2@3-3:2 77@3-4:2 1@6-6:4 3@6-6:4 0@6-6:4");
        Texts.dueKinds("'('\nx", "7 1 4 1 0");
        Check.sentence("(as many as were closed less, of whatever sort");
        Texts.dueKinds("((\n)\nx)\ny", "75 75 76 4 76 1 4 1 0");
        Texts.dueKinds("([{\n)\n)\nx)\ny", "75 77 79 76 76 4 76 1 4 1 0");
        for (String opening : new String[] {"(", "[", "{"}) {
            for (String closing : new String[] {")", "]", "}"}) {
                Check.due(opening + closing, Texts.kinds(opening + "\nx" + closing + "\ny").replaceAll("7[5-9]|80", "b"),
                    "b 4 b 1 4 1 0");
            }
        }
    }

    private static void bracketsNotBelow0() {
        Check.sentence("not below 0");
        Texts.dueKinds(")\nx", "76 1 4 1 0");
        Texts.dueKinds("])}(\nx)\ny", "78 76 80 75 4 76 1 4 1 0");
        Texts.dueKinds("())(\nx)\ny", "75 76 76 75 4 76 1 4 1 0");
        Check.sentence("and 0 where a LINE begins)");
        Texts.dueKinds("))\n(\nx)\ny", "76 76 1 75 4 76 1 4 1 0");
        Texts.dueKinds("()\nx\ny", "75 76 1 4 1 4 1 0");
        for (String open : new String[] {"(", "[\n{", "((((", "( $"}) {
            TokenDesk desk = Texts.scanned(open);
            Texts.feed(desk, "x\ny\n");
            Check.due("scan(4) after " + open, () -> desk.scan(4), 5);
        }
    }

    private static void in() {
        Check.sentence("A LINE is IN by its blanks: further than the one before: IN (one TOKEN)");
        Texts.dueKinds("x\n y", "4 1 2 4 1 3 0");
        Texts.dueKinds("x\n         y", "4 1 2 4 1 3 0");
        Texts.dueKinds("x\n y\n  z", "4 1 2 4 1 2 4 1 3 3 0");
        Texts.dueKinds("x\n y\n z", "4 1 2 4 1 4 1 3 0");
        Texts.dueKinds("x\ny", "4 1 4 1 0");
        Texts.dueKinds("x\n" + " ".repeat(4093) + "y", "4 1 2 4 1 3 0");
    }

    private static void out() {
        Check.sentence("less: OUT, as often as needed to the same IN as one that is open");
        Texts.dueKinds("x\n y\nz", "4 1 2 4 1 3 4 1 0");
        Texts.dueKinds("x\n y\n  z\nu", "4 1 2 4 1 2 4 1 3 3 4 1 0");
        Texts.dueKinds("x\n y\n  z\n u", "4 1 2 4 1 2 4 1 3 4 1 3 0");
        Texts.dueKinds("a\n b\n   c\n    d\n b", "4 1 2 4 1 2 4 1 2 4 1 3 3 4 1 3 0");
        Texts.dueKinds("a\n    b\nc\n  d\n    e\n  f", "4 1 2 4 1 3 4 1 2 4 1 2 4 1 3 4 1 3 0");
        StringBuilder stairs = new StringBuilder();
        StringBuilder want = new StringBuilder();
        for (int level = 0; level <= 87; level++) {
            stairs.append(" ".repeat(level)).append("x\n");
            want.append(level == 0 ? "" : "2 ").append("4 1 ");
        }
        Texts.dueKinds(stairs + "y", want + "3 ".repeat(87) + "4 1 0");
        Texts.dueKinds(stairs + " y", want + "3 ".repeat(86) + "4 1 3 0");
        Texts.dueKinds(stairs.toString(), want + "3 ".repeat(87) + "0");
    }

    private static void inByWhatNoneIs() {
        Check.sentence("none such: WRONG at its first TOKEN");
        Texts.dueWrong("a\n  b\n c", 7);
        Texts.dueWrong("a\n  b\n    c\n   d", 15);
        Texts.dueWrong("a\n  b\n    c\n d", 13);
        Texts.dueWrong("a\n    b\n  c\n", 10);
        // what has been come out of is open no longer
        Texts.dueWrong("a\n  b\nc\n   d\n  e", 15);
        Texts.dueWrong("a\n  b\n 'c' 07", 7);
        Texts.dueWrong("a\n  b\n c\n$", 7);
        Texts.dueWrong("a\n  b\n c '", 7);
    }

    private static void firstLine() {
        Check.sentence("the first must be 0 (else WRONG there)");
        Texts.dueKinds("x", "4 1 0");
        Texts.dueWrong(" x", 1);
        Texts.dueWrong("    x\n", 4);
        Texts.dueWrong(" x\ny", 1);
        Texts.dueWrong("\n\n x", 3);
        Texts.dueWrong("# c\n  x", 6);
        Texts.dueWrong("   \n  x", 6);
        Texts.dueWrong(" (\n)", 1);
        Texts.dueWrong(" ''' $", 1);
    }

    private static void eolAndEnd() {
        Check.sentence("Behind each LINE's last TOKEN is an EOL");
        Texts.dueKinds("x\ny\nz", "4 1 4 1 4 1 0");
        Texts.dueKinds("x;y", "4 84 4 1 0");
        Texts.dueKinds("x # c", "4 1 0");
        Texts.dueKinds("x  ", "4 1 0");
        Texts.dueKinds("'''\n'''", "7 1 0");
        Texts.dueKinds("x\n\n\n", "4 1 0");
        Check.sentence("at the end OUTs and END");
        Texts.dueKinds("", "0");
        Texts.dueKinds("a\n b\n  c", "4 1 2 4 1 2 4 1 3 3 0");
        Texts.dueKinds("a\n b\n  c\n", "4 1 2 4 1 2 4 1 3 3 0");
        Texts.dueKinds("a\n b\nc\n", "4 1 2 4 1 3 4 1 0");
    }
}
