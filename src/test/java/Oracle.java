import java.util.ArrayList;
import java.util.List;
import java.util.regex.Matcher;
import java.util.regex.Pattern;

/**
 * The document's terms a second time and in another way: patterns cut the whole text into items,
 * then the items are put together to lines. Answers as Texts.tokens() does.
 */
final class Oracle {

    private static final String DIGITS = "[0-9](?:_?[0-9])*";
    private static final String EXPONENT = "[eE][+-]?" + DIGITS;
    private static final Pattern SPACE = Pattern.compile(" +|#[^\n]*|\\\\\n");
    private static final Pattern NAME = Pattern.compile("[A-Za-z_][A-Za-z0-9_]*");
    private static final Pattern NAME_PART = Pattern.compile("[A-Za-z0-9_]");
    private static final Pattern INT = Pattern.compile("(?:0[xX](?:_?[0-9a-fA-F])+|0[oO](?:_?[0-7])+|0[bB](?:_?[01])+"
        + "|0(?:_?0)*|[1-9](?:_?[0-9])*)");
    private static final Pattern REAL = Pattern.compile("(?:(?:" + DIGITS + "\\.(?:" + DIGITS + ")?|\\." + DIGITS + ")(?:"
        + EXPONENT + ")?|" + DIGITS + EXPONENT + ")");
    private static final Pattern NUMBER_START = Pattern.compile("\\.?[0-9]");
    private static final Pattern STRING = Pattern.compile("(?:rf?|fr?)?(?:'''(?:[^\\\\']++|\\\\[\\s\\S]|'(?!''))*+'''"
        + "|\"\"\"(?:[^\\\\\"]++|\\\\[\\s\\S]|\"(?!\"\"))*+\"\"\""
        + "|'(?!'')(?:[^\\\\'\n]++|\\\\[\\s\\S])*+'|\"(?!\"\")(?:[^\\\\\"\n]++|\\\\[\\s\\S])*+\")");
    private static final Pattern STRING_START = Pattern.compile("(?:rf?|fr?)?['\"]");
    private static final List<String> KEYWORDS = List.of(("False None True and as assert break class continue def del"
        + " elif else except finally for from global if import in is lambda nonlocal not or pass raise return try while"
        + " with yield async await").split(" "));
    private static final List<String> SIGNS = List.of(("**= //= <<= >>= += -= *= /= %= &= |= ^= ** // << >> -> + - * /"
        + " % & | ^ <= >= == != ~ < > ( ) [ ] { } , : . ; @ =").split(" "));

    private static final int FEED = -2;

    /** A token, or a 10 that stands alone. */
    private record Item(int kind, int first, int behind) {
    }

    private final String text;
    private final StringBuilder told = new StringBuilder();

    private Oracle(String text) {
        this.text = text;
    }

    static String tokens(String text) {
        return new Oracle(text).told();
    }

    private String told() {
        for (int i = 0; i < text.length(); i++) {
            char c = text.charAt(i);
            if (c != 10 && (c < 32 || c > 126)) {
                return "wrong " + i;
            }
        }
        List<Item> items = new ArrayList<>();
        int wrongItem = cut(items);
        int wrongLevel = putTogether(items, wrongItem);
        if (wrongLevel >= 0) {
            return "wrong " + wrongLevel;
        }
        return wrongItem >= 0 ? "wrong " + wrongItem : told.toString();
    }

    private int cut(List<Item> items) {
        int at = 0;
        while (at < text.length()) {
            int space = end(SPACE, at);
            if (space > at) {
                at = space;
                continue;
            }
            Item item = text.charAt(at) == '\n' ? new Item(FEED, at, at + 1) : item(at);
            if (item == null) {
                return at;
            }
            items.add(item);
            at = item.behind();
        }
        return -1;
    }

    private int end(Pattern pattern, int at) {
        Matcher matcher = pattern.matcher(text).region(at, text.length()).useTransparentBounds(true);
        return matcher.lookingAt() ? matcher.end() : -1;
    }

    private Item item(int at) {
        if (end(STRING_START, at) > 0) {
            int end = end(STRING, at);
            return end < 0 ? null : new Item(7, at, end);
        }
        if (end(NUMBER_START, at) > 0) {
            int whole = end(INT, at);
            int real = end(REAL, at);
            int longest = Math.max(whole, real);
            return end(NAME_PART, longest) > 0 ? null : new Item(whole > real ? 5 : 6, at, longest);
        }
        int name = end(NAME, at);
        if (name > 0) {
            int keyword = KEYWORDS.indexOf(text.substring(at, name));
            return new Item(keyword < 0 ? 4 : 8 + keyword, at, name);
        }
        for (int length = 3; length > 0; length--) {
            int sign = at + length > text.length() ? -1 : SIGNS.indexOf(text.substring(at, at + length));
            if (sign >= 0) {
                return new Item(43 + sign, at, at + length);
            }
        }
        return null;
    }

    /** Answers where the first wrong level before the wrong item is, or -1. */
    private int putTogether(List<Item> items, int wrongItem) {
        List<Item> all = new ArrayList<>(items);
        if (wrongItem >= 0) {
            all.add(new Item(-3, wrongItem, wrongItem + 1));
        }
        List<Integer> levels = new ArrayList<>(List.of(0));
        List<Item> line = new ArrayList<>();
        int lineStart = 0;
        int open = 0;
        boolean first = true;
        for (Item item : all) {
            if (item.kind() == FEED && open == 0) {
                tell(line, item.first());
                line.clear();
                lineStart = item.behind();
                continue;
            }
            if (item.kind() == FEED) {
                continue;
            }
            if (line.isEmpty() && !level(levels, blanks(lineStart), item.first(), first)) {
                return item.first();
            }
            first = false;
            line.add(item);
            open = open(open, text.charAt(item.first()));
        }
        tell(line, text.length());
        for (int i = 1; i < levels.size(); i++) {
            tell(3, text.length(), text.length());
        }
        tell(0, text.length(), text.length());
        return -1;
    }

    private int blanks(int at) {
        int end = at;
        while (end < text.length() && text.charAt(end) == ' ') {
            end++;
        }
        return end - at;
    }

    private static int open(int open, char letter) {
        if ("([{".indexOf(letter) >= 0) {
            return open + 1;
        }
        return ")]}".indexOf(letter) >= 0 ? Math.max(0, open - 1) : open;
    }

    private boolean level(List<Integer> levels, int in, int at, boolean first) {
        if (first) {
            return in == 0;
        }
        if (in > levels.get(levels.size() - 1)) {
            levels.add(in);
            tell(2, at, at);
            return true;
        }
        int same = levels.indexOf(in);
        while (same >= 0 && levels.size() > same + 1) {
            levels.remove(levels.size() - 1);
            tell(3, at, at);
        }
        return same >= 0;
    }

    private void tell(List<Item> line, int end) {
        for (Item item : line) {
            tell(item.kind(), item.first(), item.behind());
        }
        if (!line.isEmpty()) {
            tell(1, end, end);
        }
    }

    private void tell(int kind, int first, int behind) {
        long number = 1 + text.substring(0, first).chars().filter(c -> c == '\n').count();
        told.append(told.length() == 0 ? "" : " ").append(kind).append('@').append(first).append('-').append(behind);
        told.append(':').append(number);
    }
}
