/** What is dearest for the program, and calls of all kinds in any order: every call answers, and soon. */
public final class LimitsTest {
    private static final String LONG_TEXT = "aaaaaaaaaaaaaaaaaaaaaaaaaaaaaa";
    private static final String[] DEAR = {
        "(a|a)*b", "((a+)+)+b", "((a|aa)+)+b", "(a?){6}(a?){6}a{6}b", "(a*a*){5}b", "((a+?)+?)+?b", "(a|a|a|a){6}b",
        "(((((a+)+)+)+)+)+b", "(.*.*){5}b", "((a*)?){6}b", "(a{0,6}){6}", "(a{0,6}?){6}?",
    };

    public static void main(String[] args) {
        for (String pattern : DEAR) {
            dearPattern(pattern);
        }
        for (int seed = 0; seed < 200; seed++) {
            anyCalls(new Dice(seed));
        }
        Check.end();
    }

    private static void dearPattern(String pattern) {
        PatternSearch search = Check.ready(pattern, LONG_TEXT);
        boolean needsB = pattern.endsWith("b");
        for (int call = 0; call < 100; call++) {
            Check.due("find(0) of " + pattern, search.find(0), needsB ? Check.NONE : 0);
            Check.due("whole(0, 30) of " + pattern, search.whole(0, 30), needsB ? 0 : 1);
            Check.due("replace(6) of " + pattern + " is answered", search.replace(6) >= 0, true);
        }
    }

    private static void anyCalls(Dice dice) {
        PatternSearch search = new PatternSearch();
        for (int call = 0; call < 512; call++) {
            int answer = anyCall(search, dice);
            Check.due("an answer from -5 to 126", answer >= -5 && answer <= 126, true);
        }
    }

    private static int anyCall(PatternSearch search, Dice dice) {
        int number = dice.roll(4) == 0 ? dice.roll(Integer.MAX_VALUE) - dice.roll(Integer.MAX_VALUE) : dice.roll(36) - 2;
        switch (dice.roll(22)) {
            case 0:
                return dice.roll(5) == 0 ? search.newPattern() : search.compile();
            case 1:
                return search.compile();
            case 2:
                return search.fault();
            case 3:
                return dice.roll(5) == 0 ? search.newText() : search.matches();
            case 4:
                return search.find(number);
            case 5:
                return search.group(number, dice.roll(2) == 0);
            case 6:
                return search.whole(dice.roll(3), number);
            case 7:
                return search.whole(number, dice.roll(31));
            case 8:
                return search.replace(dice.roll(2) == 0 ? number : dice.roll(7));
            case 9:
                return search.output(number);
            case 10:
                return search.state(number);
            case 11:
                return search.text(number);
            case 12:
                return search.pattern(number);
            case 13:
            case 14:
            case 15:
                return search.text(dice.pick("aabc"));
            default:
                return search.pattern(dice.pick("aaab.()[]^$*+?{}|2,-"));
        }
    }
}
