import java.util.ArrayList;
import java.util.List;
import java.util.regex.MatchResult;
import java.util.regex.Pattern;

/**
 * Holds fault against the words of the document: a sign can stand if the pattern up to it can be completed.
 * Whether a text is a whole pattern is found by striking out, from the inside to the outside, what is well written.
 */
public final class FaultTest {
    private static final Pattern CLASS = Pattern.compile("\\[\\^?(?:[^\\[\\]^-](?:-[^\\[\\]^-])?)+\\]");
    private static final Pattern RANGE = Pattern.compile("([^\\[\\]^-])-([^\\[\\]^-])");
    private static final Pattern BRACES = Pattern.compile("\\{([0-6])(?:,([1-6]))?\\}");
    private static final String ROWS = "(?:x(?:[*+?]\\??)?|\\|)*";
    private static final Pattern GROUP = Pattern.compile("\\(" + ROWS + "\\)");
    private static final String[] ENDS = {"", "]", "a]", "~]", "}", "6}", ",6}"};
    private static final String[] ALPHABETS = {
        "a(|)*", "a[^-]b", "a{0,1}", "a{},0123456", "ab()[]{}*+?|^$.-,0267~ ", "()", "((()a*?", "[a-c^]x", "a?*+{2}(",
    };

    public static void main(String[] args) {
        allShortOnes("a[]^-b~", 5);
        allShortOnes("a{},0126", 5);
        allShortOnes("a(|)*?", 5);
        Dice dice = new Dice(4711);
        for (int i = 0; i < 10000; i++) {
            compare(grown(dice, ALPHABETS[i % ALPHABETS.length], 1 + dice.roll(28)));
        }
        Check.end();
    }

    private static void allShortOnes(String signs, int most) {
        List<String> all = new ArrayList<>(List.of(""));
        for (int i = 0; i < all.size(); i++) {
            String one = all.get(i);
            compare(one);
            boolean goesOn = one.length() < most && dueFault(one) != one.length() - 1;
            for (int k = 0; goesOn && k < signs.length(); k++) {
                all.add(one + signs.charAt(k));
            }
        }
    }

    /** Mostly of signs that can stand, as a text thrown at random goes wrong at once. */
    private static String grown(Dice dice, String signs, int length) {
        StringBuilder text = new StringBuilder();
        while (text.length() < length) {
            text.append(dice.pick(signs));
            boolean wrong = !canBegin(text.toString());
            if (wrong && dice.roll(12) != 0) {
                text.setLength(text.length() - 1);
                length--;
            }
        }
        return text.toString();
    }

    private static void compare(String text) {
        PatternSearch search = Check.withPattern(text);
        int due = dueFault(text);
        Check.due("fault() of " + text, search.fault(), due);
        Check.due("compile() of " + text + " is BAD", search.compile() == Check.BAD, due != Check.NONE);
    }

    private static int dueFault(String text) {
        for (int place = 0; place < text.length(); place++) {
            if (!canBegin(text.substring(0, place + 1))) {
                return place;
            }
        }
        return isWhole(text) ? Check.NONE : text.length();
    }

    private static boolean canBegin(String text) {
        for (String end : ENDS) {
            String closed = text + end;
            for (int depth = 0; depth <= 6; depth++) {
                if (isWhole(closed)) {
                    return true;
                }
                closed += ")";
            }
        }
        return false;
    }

    private static boolean isWhole(String text) {
        String rest = CLASS.matcher(text).replaceAll(found -> goodRanges(found) ? "x" : "]");
        rest = BRACES.matcher(rest).replaceAll(found -> goodBraces(found) ? "*" : "}");
        if (rest.chars().filter(sign -> sign == '(').count() > 6) {
            return false;
        }
        rest = rest.replaceAll("[^\\[\\]|()*+?{}]", "x");
        String before = "";
        while (!rest.equals(before)) {
            before = rest;
            rest = GROUP.matcher(rest).replaceAll("x");
        }
        return rest.matches(ROWS);
    }

    private static boolean goodRanges(MatchResult found) {
        return RANGE.matcher(found.group()).results().allMatch(range -> range.group(1).charAt(0) <= range.group(2).charAt(0));
    }

    private static boolean goodBraces(MatchResult found) {
        int least = Integer.parseInt(found.group(1));
        return found.group(2) == null ? least > 0 : least <= Integer.parseInt(found.group(2));
    }
}
