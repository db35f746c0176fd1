/**
 * Turns a text whose blocks are told by how far lines are in into tokens, the longest that can be,
 * and tells the place of what is wrong.
 */
public final class TokenDesk {

    private static final int NOWHERE = -1;

    private static final int MOST_LETTERS = 4096;

    private static final int KIND_END = 0;
    private static final int KIND_EOL = 1;
    private static final int KIND_IN = 2;
    private static final int KIND_OUT = 3;
    private static final int KIND_NAME = 4;
    private static final int KIND_INT = 5;
    private static final int KIND_REAL = 6;
    private static final int KIND_STRING = 7;
    private static final int KIND_FIRST_KEYWORD = 8;
    private static final int KIND_FIRST_SIGN = 43;

    private static final int LINE_FEED = 10;
    private static final int BACKSLASH = 92;

    private final Text text;
    private final Tokens tokens;
    private final Reader reader;
    private int wrongAt;

    public TokenDesk() {
        text = new Text();
        tokens = new Tokens();
        reader = new Reader(text, tokens);
        wrongAt = NOWHERE;
    }

    public int feed(int a, int b, int c, int d, int e) throws IndexOutOfBoundsException {
        if (!text.hasRoom()) {
            throw new IndexOutOfBoundsException("more than 4,100 octets would be fed");
        }
        text.addWord(a);
        text.addWord(b);
        text.addWord(c);
        text.addWord(d);
        text.addWord(e);
        return text.fedOctets();
    }

    public int scan(int n) throws IndexOutOfBoundsException, IllegalArgumentException {
        if (n < 0 || n > MOST_LETTERS || n > text.fedOctets()) {
            throw new IndexOutOfBoundsException("no text of so many letters was fed");
        }
        tokens.clear();
        text.cutTo(n);
        wrongAt = reader.readText();
        text.clear();
        if (wrongAt != NOWHERE) {
            tokens.clear();
            throw new IllegalArgumentException("the text is wrong");
        }
        return tokens.size();
    }

    public int wrong() {
        return wrongAt;
    }

    public int token(int k, int what) throws IllegalArgumentException, IndexOutOfBoundsException {
        if (what < 0 || what >= Tokens.PARTS) {
            throw new IllegalArgumentException("a token has the parts 0 to 3 alone");
        }
        if (k < 0 || k >= tokens.size()) {
            throw new IndexOutOfBoundsException("no such token");
        }
        return tokens.part(k, what);
    }

    public int many() {
        return tokens.size();
    }

    /** What was fed, and the text that is its beginning. */
    private static final class Text {

        private static final int WORDS_A_FEED = 5;
        private static final int MOST_WORDS = 1025;

        private final int[] words = new int[MOST_WORDS];
        private int fedWords;
        private int length;

        boolean hasRoom() {
            return fedWords + WORDS_A_FEED <= MOST_WORDS;
        }

        void addWord(int word) {
            if (fedWords < MOST_WORDS) {
                words[fedWords] = word;
                fedWords++;
            }
        }

        int fedOctets() {
            return fedWords * 4;
        }

        void cutTo(int letters) {
            length = letters;
        }

        void clear() {
            fedWords = 0;
            length = 0;
        }

        int size() {
            return length;
        }

        /** NOWHERE outside the text, so that looking ahead needs no care for where it ends. */
        int letterAt(int place) {
            if (place < 0 || place >= length || place >= MOST_LETTERS) {
                return NOWHERE;
            }
            return words[place >> 2] >>> (24 - 8 * (place & 3)) & 255;
        }

        int firstBadOctet() {
            for (int place = 0; place < length; place++) {
                int letter = letterAt(place);
                if (letter != LINE_FEED && (letter < 32 || letter > 126)) {
                    return place;
                }
            }
            return NOWHERE;
        }

        int lineFeedFrom(int first) {
            for (int place = first; place < length; place++) {
                if (letterAt(place) == LINE_FEED) {
                    return place;
                }
            }
            return length;
        }

        int lineFeedsIn(int first, int behind) {
            int found = 0;
            for (int place = first; place < behind; place++) {
                if (letterAt(place) == LINE_FEED) {
                    found++;
                }
            }
            return found;
        }

        int blanksFrom(int first) {
            for (int place = first; place < length; place++) {
                if (letterAt(place) != ' ') {
                    return place - first;
                }
            }
            return length - first;
        }

        boolean joinsLinesAt(int place) {
            return letterAt(place) == BACKSLASH && letterAt(place + 1) == LINE_FEED;
        }
    }

    /** The tokens, each in one long, so that an object takes little room. */
    private static final class Tokens {

        private static final int PARTS = 4;
        private static final int BITS_A_PART = 16;

        /**
         * Each token but an OUT, the last EOL and the END has a letter of its own (an IN one of its
         * blanks); there are no more OUTs than INs, and an IN comes with three letters: a 10 before
         * it, a blank and its line's first token.
         */
        private static final int MOST_TOKENS = MOST_LETTERS + MOST_LETTERS / 3 + 2;

        private final long[] packed = new long[MOST_TOKENS];
        private int count;

        void clear() {
            count = 0;
        }

        int size() {
            return count;
        }

        void add(int kind, int first, int behind, int line) {
            if (count < MOST_TOKENS) {
                long places = (long) first << BITS_A_PART | (long) behind << 2 * BITS_A_PART;
                packed[count] = kind | places | (long) line << 3 * BITS_A_PART;
                count++;
            }
        }

        int part(int k, int what) {
            if (k < 0 || k >= count) {
                return NOWHERE;
            }
            return (int) (packed[k] >>> what * BITS_A_PART) & 0xFFFF;
        }
    }

    /** The keywords in the order of their kinds. */
    private enum Keyword {
        FALSE("False"), NONE("None"), TRUE("True"), AND("and"), AS("as"), ASSERT("assert"),
        BREAK("break"), CLASS("class"), CONTINUE("continue"), DEF("def"), DEL("del"), ELIF("elif"),
        ELSE("else"), EXCEPT("except"), FINALLY("finally"), FOR("for"), FROM("from"),
        GLOBAL("global"), IF("if"), IMPORT("import"), IN("in"), IS("is"), LAMBDA("lambda"),
        NONLOCAL("nonlocal"), NOT("not"), OR("or"), PASS("pass"), RAISE("raise"), RETURN("return"),
        TRY("try"), WHILE("while"), WITH("with"), YIELD("yield"), ASYNC("async"), AWAIT("await");

        private static final Keyword[] ALL = values();

        private final String letters;

        Keyword(String letters) {
            this.letters = letters;
        }
    }

    /** Tells of a token that begins at a place its kind and the place behind it. */
    private static final class Shapes {

        /**
         * Three letters a sign, filled up with blanks, in the order of their kinds; in that order a
         * sign never stands before a longer one that begins with it, so the first found is longest.
         */
        private static final String SIGNS =
            "**=//=<<=>>=+= -= *= /= %= &= |= ^= ** // << >> -> +  -  *  /  %  &  |  ^  <= >= == != ~  <  >  (  )  [  ]  {  }  ,  :  .  ;  @  =  ";
        private static final int SIGN_WIDTH = 3;

        private final Text text;

        Shapes(Text text) {
            this.text = text;
        }

        static boolean isDigit(int letter, int base) {
            if (letter >= '0' && letter <= '9') {
                return letter - '0' < base;
            }
            return base == 16 && (letter >= 'a' && letter <= 'f' || letter >= 'A' && letter <= 'F');
        }

        static boolean beginsName(int letter) {
            return letter >= 'a' && letter <= 'z' || letter >= 'A' && letter <= 'Z' || letter == '_';
        }

        static boolean continuesName(int letter) {
            return beginsName(letter) || isDigit(letter, 10);
        }

        int nameEnd(int first) {
            int place = first;
            while (place < text.size() && continuesName(text.letterAt(place))) {
                place++;
            }
            return place;
        }

        int nameKind(int first, int end) {
            for (int k = 0; k < Keyword.ALL.length; k++) {
                if (isSpelled(Keyword.ALL[k].letters, first, end)) {
                    return KIND_FIRST_KEYWORD + k;
                }
            }
            return KIND_NAME;
        }

        private boolean isSpelled(String word, int first, int end) {
            if (word.length() != end - first) {
                return false;
            }
            for (int i = 0; i < word.length(); i++) {
                if (word.charAt(i) != text.letterAt(first + i)) {
                    return false;
                }
            }
            return true;
        }

        boolean beginsNumber(int first) {
            int letter = text.letterAt(first);
            return isDigit(letter, 10) || letter == '.' && isDigit(text.letterAt(first + 1), 10);
        }

        /** NOWHERE if the number is wrong. */
        int numberEnd(int first) {
            int base = baseAt(first);
            int end = base == 10 ? digitsEnd(first, 10) : basedEnd(first, base);
            if (base == 10) {
                int wholeEnd = end;
                end = realEnd(wholeEnd);
                if (end == wholeEnd && hasIdleZero(first, end)) {
                    return NOWHERE;
                }
            }
            return continuesName(text.letterAt(end)) ? NOWHERE : end;
        }

        int numberKind(int first, int end) {
            boolean whole = baseAt(first) != 10 || digitsEnd(first, 10) == end;
            return whole ? KIND_INT : KIND_REAL;
        }

        private int baseAt(int first) {
            if (text.letterAt(first) != '0') {
                return 10;
            }
            switch (text.letterAt(first + 1)) {
                case 'x':
                case 'X':
                    return 16;
                case 'o':
                case 'O':
                    return 8;
                case 'b':
                case 'B':
                    return 2;
                default:
                    return 10;
            }
        }

        private int basedEnd(int first, int base) {
            int digits = text.letterAt(first + 2) == '_' ? first + 3 : first + 2;
            int end = digitsEnd(digits, base);
            return end == digits ? NOWHERE : end;
        }

        /** The same place if neither a fraction nor a whole exponent stands behind the digits. */
        private int realEnd(int wholeEnd) {
            int end = text.letterAt(wholeEnd) == '.' ? digitsEnd(wholeEnd + 1, 10) : wholeEnd;
            int letter = text.letterAt(end);
            if (letter != 'e' && letter != 'E') {
                return end;
            }
            int sign = text.letterAt(end + 1);
            int digits = sign == '+' || sign == '-' ? end + 2 : end + 1;
            int exponentEnd = digitsEnd(digits, 10);
            return exponentEnd == digits ? end : exponentEnd;
        }

        private int digitsEnd(int first, int base) {
            int place = first;
            while (place < text.size()) {
                int letter = text.letterAt(place);
                boolean between = letter == '_' && place > first && isDigit(text.letterAt(place + 1), base);
                if (!between && !isDigit(letter, base)) {
                    break;
                }
                place++;
            }
            return place;
        }

        private boolean hasIdleZero(int first, int end) {
            if (text.letterAt(first) != '0') {
                return false;
            }
            for (int place = first; place < end; place++) {
                int letter = text.letterAt(place);
                if (letter != '0' && letter != '_') {
                    return true;
                }
            }
            return false;
        }

        /** Where the first quote of a string stands that begins here; NOWHERE if none does. */
        int quoteOfStringAt(int first) {
            int place = first + prefixLength(text.letterAt(first), text.letterAt(first + 1));
            int letter = text.letterAt(place);
            return letter == '\'' || letter == '"' ? place : NOWHERE;
        }

        private static int prefixLength(int letter, int next) {
            if (letter == 'r') {
                return next == 'f' ? 2 : 1;
            }
            if (letter == 'f') {
                return next == 'r' ? 2 : 1;
            }
            return 0;
        }

        /** NOWHERE if the string is not closed where it must be. */
        int stringEnd(int quotePlace) {
            int quote = text.letterAt(quotePlace);
            int quotes = standsThrice(quote, quotePlace) ? 3 : 1;
            for (int place = quotePlace + quotes; place < text.size(); place++) {
                int letter = text.letterAt(place);
                if (letter == BACKSLASH) {
                    place++;
                } else if (letter == quote && (quotes == 1 || standsThrice(quote, place))) {
                    return place + quotes;
                } else if (letter == LINE_FEED && quotes == 1) {
                    return NOWHERE;
                }
            }
            return NOWHERE;
        }

        private boolean standsThrice(int quote, int place) {
            return text.letterAt(place) == quote
                && text.letterAt(place + 1) == quote
                && text.letterAt(place + 2) == quote;
        }

        /** NOWHERE if no sign stands there. */
        int signKind(int first) {
            for (int row = 0; row + SIGN_WIDTH <= SIGNS.length(); row += SIGN_WIDTH) {
                if (isSign(row, first)) {
                    return KIND_FIRST_SIGN + row / SIGN_WIDTH;
                }
            }
            return NOWHERE;
        }

        int signEnd(int first, int kind) {
            return kind == NOWHERE ? NOWHERE : first + signLength((kind - KIND_FIRST_SIGN) * SIGN_WIDTH);
        }

        private static int signLength(int row) {
            int length = 0;
            while (length < SIGN_WIDTH && row >= 0 && row + length < SIGNS.length()
                && SIGNS.charAt(row + length) != ' ') {
                length++;
            }
            return length;
        }

        private boolean isSign(int row, int first) {
            int length = signLength(row);
            for (int i = 0; i < length; i++) {
                if (SIGNS.charAt(row + i) != text.letterAt(first + i)) {
                    return false;
                }
            }
            return true;
        }
    }

    /** Goes through a text line by line and writes down its tokens. */
    private static final class Reader {

        /** 4,096 letters have room for 88 INs within one another: each line has one blank more. */
        private static final int MOST_LEVELS = 100;

        private final Text text;
        private final Tokens tokens;
        private final Shapes shapes;
        private final int[] levels = new int[MOST_LEVELS];
        private int deepest;
        private int at;
        private int line;
        private int open;
        private int lineIn;
        private boolean lineHasTokens;

        Reader(Text text, Tokens tokens) {
            this.text = text;
            this.tokens = tokens;
            this.shapes = new Shapes(text);
        }

        /** Answers where the text is wrong, or NOWHERE. */
        int readText() {
            int bad = text.firstBadOctet();
            if (bad != NOWHERE) {
                return bad;
            }
            begin();
            for (int steps = 0; steps < text.size() && at < text.size(); steps++) {
                int letter = text.letterAt(at);
                if (letter == ' ') {
                    at++;
                } else if (letter == '#') {
                    at = text.lineFeedFrom(at);
                } else if (letter == LINE_FEED) {
                    passLineFeed();
                } else if (text.joinsLinesAt(at)) {
                    at += 2;
                    line++;
                } else if (!passToken()) {
                    return at;
                }
            }
            end();
            return NOWHERE;
        }

        private void begin() {
            deepest = 0;
            levels[0] = 0;
            line = 1;
            beginLine(0);
        }

        /** The blanks here count even if a 92 and more blanks come before the first token. */
        private void beginLine(int place) {
            at = place;
            open = 0;
            lineIn = text.blanksFrom(place);
            lineHasTokens = false;
        }

        private void passLineFeed() {
            if (open > 0) {
                at++;
            } else {
                endLine();
                beginLine(at + 1);
            }
            line++;
        }

        private void endLine() {
            if (lineHasTokens) {
                tokens.add(KIND_EOL, at, at, line);
            }
        }

        private void end() {
            endLine();
            comeOutTo(0);
            tokens.add(KIND_END, at, at, line);
        }

        private boolean passToken() {
            if (!lineHasTokens && !settleLevel()) {
                return false;
            }
            lineHasTokens = true;
            int quotePlace = shapes.quoteOfStringAt(at);
            if (quotePlace != NOWHERE) {
                return take(KIND_STRING, shapes.stringEnd(quotePlace));
            }
            if (Shapes.beginsName(text.letterAt(at))) {
                int end = shapes.nameEnd(at);
                return take(shapes.nameKind(at, end), end);
            }
            if (shapes.beginsNumber(at)) {
                int end = shapes.numberEnd(at);
                return take(shapes.numberKind(at, end), end);
            }
            int kind = shapes.signKind(at);
            return take(kind, shapes.signEnd(at, kind));
        }

        /** False if the line is in by what none before it that is open is. */
        private boolean settleLevel() {
            if (lineIn > levels[deepest]) {
                return goIn();
            }
            comeOutTo(lineIn);
            return levels[deepest] == lineIn;
        }

        private boolean goIn() {
            boolean firstLine = tokens.size() == 0;
            if (firstLine || deepest + 1 >= MOST_LEVELS) {
                return false;
            }
            deepest++;
            levels[deepest] = lineIn;
            tokens.add(KIND_IN, at, at, line);
            return true;
        }

        private void comeOutTo(int in) {
            while (deepest > 0 && levels[deepest] > in) {
                deepest--;
                tokens.add(KIND_OUT, at, at, line);
            }
        }

        private boolean take(int kind, int end) {
            if (end == NOWHERE) {
                return false;
            }
            tokens.add(kind, at, end, line);
            line += text.lineFeedsIn(at, end);
            countOpen(text.letterAt(at));
            at = end;
            return true;
        }

        private void countOpen(int letter) {
            if (letter == '(' || letter == '[' || letter == '{') {
                open++;
            } else if (open > 0 && (letter == ')' || letter == ']' || letter == '}')) {
                open--;
            }
        }
    }
}
