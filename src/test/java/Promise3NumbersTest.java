/** Promise 3, INTs and REALs, and the numbers that are wrong. */
public final class Promise3NumbersTest {

    public static void main(String[] args) {
        ints();
        reals();
        sequences();
        wrongNumbers();
        Check.end("Promise3NumbersTest");
    }

    private static void ints() {
        for (String number : new String[] {"0", "7", "10", "1234567890", "1_0", "1_2_3", "00", "000", "0_0",
            "0x0", "0X1f", "0xFf", "0x_1", "0x_f_F_9", "0xe", "0xdeadBEEF", "0o7", "0O17", "0o_1_7", "0b1",
            "0B0", "0b_1_0", "0b0001"}) {
            dueNumber(number, 5);
        }
    }

    private static void reals() {
        for (String number : new String[] {"1.", ".1", "1.5", "0.", ".0", "00.5", "07.5", "07.", "07e1", "0_7.1",
            "1_0.0_1", "1e5", "1E5", "1e+5", "1e-5", "1.e5", ".1e5", "1.5e-3", "1_0e1_0", "0e0", "09e0_9",
            "1.5E+1_0", "0.e0", "08_9.e1"}) {
            dueNumber(number, 6);
        }
    }

    private static void dueNumber(String number, int kind) {
        int end = number.length();
        Texts.dueTokens(number, kind + "@0-" + end + ":1 1@" + end + "-" + end + ":1 0@" + end + "-" + end + ":1");
        Texts.dueKinds("(" + number + ")\n", "75 " + kind + " 76 1 0");
        Texts.dueKinds("x " + number + "'a'", "4 " + kind + " 7 1 0");
        Texts.dueWrong("x " + number + "g", 2);
        Texts.dueWrong("x " + number + "_", 2);
        Texts.dueWrong("x " + number + "__1", 2);
        Texts.dueWrong("x " + number + "Z", 2);
    }

    private static void sequences() {
        Texts.dueTokens("1..2", "6@0-2:1 6@2-4:1 1@4-4:1 0@4-4:1");
        Texts.dueTokens("1.2.3", "6@0-3:1 6@3-5:1 1@5-5:1 0@5-5:1");
        Texts.dueKinds("1...", "6 83 83 1 0");
        Texts.dueKinds("..5", "83 6 1 0");
        Texts.dueKinds("x.5", "4 6 1 0");
        Texts.dueKinds("._5", "83 4 1 0");
        Texts.dueKinds(".e5", "83 4 1 0");
        Texts.dueKinds("0x1.5", "5 6 1 0");
        Texts.dueKinds("0b1.", "5 83 1 0");
        Texts.dueKinds("0xe+1", "5 60 5 1 0");
        Texts.dueKinds("-1", "61 5 1 0");
        Texts.dueKinds("1-1", "5 61 5 1 0");
        Texts.dueKinds("1e5.5", "6 6 1 0");
        Texts.dueKinds("1e5+5", "6 60 5 1 0");
        Texts.dueKinds("0 7", "5 5 1 0");
        Texts.dueKinds("1 if", "5 26 1 0");
    }

    private static void wrongNumbers() {
        for (String number : new String[] {"07", "01", "00_1", "0_7", "007", "0x", "0X", "0o", "0b", "0x_", "0x__1",
            "0xg", "0b2", "0b12", "0o8", "0o18", "0b_2", "1_", "1__0", "1_.5", "1._5", "1.5_", ".5_", "1e", "1e+",
            "1e-", "1e_5", "1e+_5", "1.e", ".5e", "1e5_", "1e5x", "1x", "1if", "1.x", "1._", "1j", "1.5j", "1L",
            "0x1_", "0x1g", "0_x1", "0e", "00x1", "1r'a'", "0b1e5", "0xx", "1E+-5", "1ee5", "0o1b", "1e5e5"}) {
            Texts.dueWrong(number, 0);
            Texts.dueWrong("x = " + number + "\n", 4);
        }
    }
}
