/** Promise 5 by the terms' third paragraph, sentence by sentence: KINDS, PLACES and LINES. */
public final class Promise5PlaceTermsTest {

    public static void main(String[] args) {
        firstKinds();
        keywordKinds();
        signKinds();
        placesOfLetters();
        placesOfEol();
        placesOfEnd();
        placesOfInAndOut();
        placesOfOutAtTheEnd();
        linesByTens();
        lineOfEnd();
        Check.end("Promise5PlaceTermsTest");
    }

    private static void firstKinds() {
        Check.sentence("0 END, 1 EOL, 2 IN, 3 OUT, 4 NAME, 5 INT, 6 REAL, 7 STRING");
        Texts.dueKinds("", "0");
        Texts.dueKinds("a\n 1\n2. ''", "4 1 2 5 1 3 6 7 1 0");
    }

    private static void keywordKinds() {
        Check.sentence("8 to 42 the KEYWORDS in the order above");
        Texts.dueKinds("False None True and as assert break class continue def del elif else except finally for from global"
            + " if import in is lambda nonlocal not or pass raise return try while with yield async await",
            "8 9 10 11 12 13 14 15 16 17 18 19 20 21 22 23 24 25 26 27 28 29 30 31 32 33 34 35 36 37 38 39 40 41 42 1 0");
    }

    private static void signKinds() {
        Check.sentence("43 to 54 **= //= <<= >>= += -= *= /= %= &= |= ^=");
        Texts.dueKinds("**= //= <<= >>= += -= *= /= %= &= |= ^=", "43 44 45 46 47 48 49 50 51 52 53 54 1 0");
        Check.sentence("55 to 86 ** // << >> -> + - * / % & | ^ <= >= == != ~ < > ( ) [ ] { } , : . ; @ =");
        Texts.dueKinds("** // << >> -> + - * / % & | ^ <= >= == != ~ < > ( ) [ ] { } , : . ; @ =",
            "55 56 57 58 59 60 61 62 63 64 65 66 67 68 69 70 71 72 73 74 75 76 77 78 79 80 81 82 83 84 85 86 1 0");
    }

    private static void placesOfLetters() {
        Check.sentence("PLACES: of its first LETTER and behind its last one");
        Texts.dueTokens("ab  12 1.5 fr'a' if **= +", "4@0-2:1 5@4-6:1 6@7-10:1 7@11-16:1 26@17-19:1 43@20-23:1 60@24-25:1"
            + " 1@25-25:1 0@25-25:1");
        Texts.dueTokens("a+b", "4@0-1:1 60@1-2:1 4@2-3:1 1@3-3:1 0@3-3:1");
        Texts.dueTokens("(" + " ".repeat(4094) + ")", "75@0-1:1 76@4095-4096:1 1@4096-4096:1 0@4096-4096:1");
    }

    private static void placesOfEol() {
        Check.sentence("EOL: both where the LINE ends: the 10, or how many LETTERS");
        Texts.dueTokens("x  \n", "4@0-1:1 1@3-3:1 0@4-4:2");
        Texts.dueTokens("x # c\n", "4@0-1:1 1@5-5:1 0@6-6:2");
        Texts.dueTokens("x  ", "4@0-1:1 1@3-3:1 0@3-3:1");
        Texts.dueTokens("x # c", "4@0-1:1 1@5-5:1 0@5-5:1");
        Texts.dueTokens("x\n\n\n", "4@0-1:1 1@1-1:1 0@4-4:4");
        Texts.dueTokens("x \\\n  \n", "4@0-1:1 1@6-6:2 0@7-7:3");
        Texts.dueTokens("x \\\n  ", "4@0-1:1 1@6-6:2 0@6-6:2");
        Texts.dueTokens("(\n)  \n", "75@0-1:1 76@2-3:2 1@5-5:2 0@6-6:3");
        Texts.dueTokens("( # c\n", "75@0-1:1 1@6-6:2 0@6-6:2");
    }

    private static void placesOfEnd() {
        Check.sentence("END: both where THE TEXT ends: how many LETTERS");
        Texts.dueTokens("", "0@0-0:1");
        Texts.dueTokens(" ", "0@1-1:1");
        Texts.dueTokens("\n", "0@1-1:2");
        Texts.dueTokens("# c", "0@3-3:1");
        Texts.dueTokens("x\n  # c", "4@0-1:1 1@1-1:1 0@7-7:2");
        Texts.dueTokens("x\n \n \n", "4@0-1:1 1@1-1:1 0@6-6:4");
        Texts.dueTokens("\n".repeat(4096), "0@4096-4096:4097");
    }

    private static void placesOfInAndOut() {
        Check.sentence("IN, OUT: both at the LINE's first TOKEN");
        Texts.dueTokens("a\n  b\nc", "4@0-1:1 1@1-1:1 2@4-4:2 4@4-5:2 1@5-5:2 3@6-6:3 4@6-7:3 1@7-7:3 0@7-7:3");
        Texts.dueTokens("a\n b\n  c\n d", "4@0-1:1 1@1-1:1 2@3-3:2 4@3-4:2 1@4-4:2 2@7-7:3 4@7-8:3 1@8-8:3"
            + " 3@10-10:4 4@10-11:4 1@11-11:4 3@11-11:4 0@11-11:4");
        Texts.dueTokens("a\n b\n  c\nd", "4@0-1:1 1@1-1:1 2@3-3:2 4@3-4:2 1@4-4:2 2@7-7:3 4@7-8:3 1@8-8:3"
            + " 3@9-9:4 3@9-9:4 4@9-10:4 1@10-10:4 0@10-10:4");
        Texts.dueTokens("a\n b\n\n# c\nd", "4@0-1:1 1@1-1:1 2@3-3:2 4@3-4:2 1@4-4:2 3@10-10:5 4@10-11:5 1@11-11:5 0@11-11:5");
        Texts.dueTokens("a\n \\\n  b\n\\\n  d", "4@0-1:1 1@1-1:1 2@7-7:3 4@7-8:3 1@8-8:3 3@13-13:5 4@13-14:5 1@14-14:5"
            + " 0@14-14:5");
    }

    private static void placesOfOutAtTheEnd() {
        Check.sentence("(OUT at the end: how many LETTERS)");
        Texts.dueTokens("a\n b", "4@0-1:1 1@1-1:1 2@3-3:2 4@3-4:2 1@4-4:2 3@4-4:2 0@4-4:2");
        Texts.dueTokens("a\n b\n", "4@0-1:1 1@1-1:1 2@3-3:2 4@3-4:2 1@4-4:2 3@5-5:3 0@5-5:3");
        Texts.dueTokens("a\n b  # c", "4@0-1:1 1@1-1:1 2@3-3:2 4@3-4:2 1@9-9:2 3@9-9:2 0@9-9:2");
        Texts.dueTokens("a\n b\n\n  \n#", "4@0-1:1 1@1-1:1 2@3-3:2 4@3-4:2 1@4-4:2 3@10-10:5 0@10-10:5");
        Texts.dueTokens("a\n b\n  c\n\n", "4@0-1:1 1@1-1:1 2@3-3:2 4@3-4:2 1@4-4:2 2@7-7:3 4@7-8:3 1@8-8:3"
            + " 3@10-10:5 3@10-10:5 0@10-10:5");
        Texts.dueTokens("a\n (\n", "4@0-1:1 1@1-1:1 2@3-3:2 75@3-4:2 1@5-5:3 3@5-5:3 0@5-5:3");
    }

    private static void linesByTens() {
        Check.sentence("LINES are counted from 1 by 10s");
        Texts.dueTokens("a\n\nb", "4@0-1:1 1@1-1:1 4@3-4:3 1@4-4:3 0@4-4:3");
        Texts.dueTokens("# c\n \na", "4@6-7:3 1@7-7:3 0@7-7:3");
        Texts.dueTokens("a\\\nb", "4@0-1:1 4@3-4:2 1@4-4:2 0@4-4:2");
        Texts.dueTokens("(\n# c\na\n)", "75@0-1:1 4@6-7:3 76@8-9:4 1@9-9:4 0@9-9:4");
        Texts.dueTokens("'\\\n'a", "7@0-4:1 4@4-5:2 1@5-5:2 0@5-5:2");
        Texts.dueTokens("\n".repeat(4094) + "ab", "4@4094-4096:4095 1@4096-4096:4095 0@4096-4096:4095");
    }

    private static void lineOfEnd() {
        Check.sentence("(the END's: 1 more than there are 10s)");
        for (String text : new String[] {"", "x", "x\n", "\n", "\n\n", "x\n\ny", "'''\n\n'''", "'\\\n'\n",
            "x\\\n", "x\\\n\n", "(\n\n", "# c\n# d", "x\n y\n", "\n".repeat(4096), "x\n".repeat(2048)}) {
            TokenDesk desk = Texts.scanned(text);
            int tens = (int) text.chars().filter(c -> c == '\n').count();
            Check.due("the END's line of " + text, () -> desk.token(desk.many() - 1, 3), tens + 1);
            Check.due("the END's place of " + text, () -> desk.token(desk.many() - 1, 1), text.length());
        }
    }
}
