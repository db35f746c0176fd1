/** Refused calls in many states, each followed by calls that show whether all stayed. */
final class Refusals {

    interface Step {
        int on(TokenDesk desk);
    }

    /** A way to a state, with how many octets are fed and how many tokens there are then. */
    private record State(String name, int fed, int many, Runner runner) {
    }

    private interface Runner {
        void run(TokenDesk desk);
    }

    private static final int FULL = 4100;

    private static final State[] STATES = {
        new State("new", 0, 0, desk -> { }),
        new State("fed", 20, 0, desk -> Texts.feed(desk, "a b\n".repeat(5))),
        new State("fed what is wrong", 20, 0, desk -> Texts.feed(desk, " $\t")),
        new State("right", 0, 4, desk -> scan(desk, "a b\n")),
        new State("wrong", 0, 0, desk -> scan(desk, "a $")),
        new State("wrong, then fed", 40, 0, desk -> {
            scan(desk, "a $");
            Texts.feed(desk, "a ".repeat(20));
        }),
        new State("right, then fed", 40, 7, desk -> {
            scan(desk, "x\n y\n");
            Texts.feed(desk, "- ".repeat(20));
        }),
        new State("full", FULL, 0, desk -> Texts.feed(desk, "full".repeat(1025))),
        new State("right, then full", FULL, 5, desk -> {
            scan(desk, "a b c");
            Texts.feed(desk, "+ ~ ".repeat(1025));
        }),
        new State("wrong, then full", FULL, 0, desk -> {
            scan(desk, "   '");
            Texts.feed(desk, "\n".repeat(4100));
        })};

    private Refusals() {
    }

    private static void scan(TokenDesk desk, String text) {
        Texts.feed(desk, text);
        Check.answer(() -> desk.scan(text.length()));
    }

    static void ofFeed() {
        for (State state : STATES) {
            if (state.fed == FULL) {
                leavesAll(state, "feed(1, 2, 3, 4, 5)", desk -> desk.feed(1, 2, 3, 4, 5), Texts.INDEX);
            }
        }
    }

    static void ofScan() {
        for (State state : STATES) {
            for (int n : new int[] {-1, Integer.MIN_VALUE, 4097, 4099, 4100, 4101, Integer.MAX_VALUE}) {
                leavesAll(state, "scan(" + n + ")", desk -> desk.scan(n), Texts.INDEX);
            }
            if (state.fed < FULL) {
                leavesAll(state, "scan() of one more than fed", desk -> desk.scan(state.fed + 1), Texts.INDEX);
            }
        }
    }

    static void ofToken() {
        for (State state : STATES) {
            for (int k : new int[] {-1, Integer.MIN_VALUE, state.many, state.many + 1, Integer.MAX_VALUE}) {
                for (int what = 0; what < 4; what++) {
                    int part = what;
                    leavesAll(state, "token(" + k + ", " + what + ")", desk -> desk.token(k, part), Texts.INDEX);
                }
            }
            for (int what : new int[] {-1, Integer.MIN_VALUE, 4, 5, Integer.MAX_VALUE}) {
                for (int k : new int[] {-1, 0, state.many}) {
                    leavesAll(state, "token(" + k + ", " + what + ")", desk -> desk.token(k, what), Texts.ARGUMENT);
                }
            }
        }
    }

    /** Of two desks that came the same way one gets the refused call: from there on they answer alike. */
    private static void leavesAll(State state, String call, Step refused, String exception) {
        TokenDesk refusing = new TokenDesk();
        TokenDesk other = new TokenDesk();
        state.runner.run(refusing);
        state.runner.run(other);
        String what = state.name + ": " + call;
        Check.due(what, () -> refused.on(refusing), exception);
        Check.due(what + " once more", () -> refused.on(refusing), exception);
        Check.due(what + ", then many()", refusing::many, state.many);
        Check.due(what + ", then all", later(refusing, state.fed), later(other, state.fed));
    }

    /** Answers that tell the tokens, the wrong place, how much is fed, and what it is. */
    private static String later(TokenDesk desk, int fed) {
        StringBuilder told = new StringBuilder();
        tell(desk, told);
        if (fed < FULL) {
            told.append(" feed ").append(Check.answer(() -> desk.feed(0x61626320, 0x31323320, 0x2E2E2E2E, 0, 0)));
        }
        int letters = Math.min(4096, fed + (fed < FULL ? 12 : 0));
        told.append(" scan ").append(Check.answer(() -> desk.scan(letters)));
        tell(desk, told);
        told.append(" feed ").append(Check.answer(() -> desk.feed(0, 0, 0, 0, 0)));
        return told.toString();
    }

    private static void tell(TokenDesk desk, StringBuilder told) {
        int many = desk.many();
        told.append(" wrong ").append(desk.wrong()).append(" many ").append(many);
        for (int k = 0; k < Math.min(many, 20); k++) {
            told.append(' ').append(desk.token(k, 0)).append('@').append(desk.token(k, 1));
            told.append('-').append(desk.token(k, 2)).append(':').append(desk.token(k, 3));
        }
    }
}
