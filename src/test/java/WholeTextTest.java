/** Promises 10 to 14: whole, matches, replace, output and state, and that REFUSED changes nothing. */
public final class WholeTextTest {
    public static void main(String[] args) {
        wholeAsksForItsPlaces();
        wholeTakesAnyWay();
        wholeKeepsTheEdges();
        matchesCountsAll();
        replacePutsGroups();
        replaceAsksForItsGroup();
        outputTellsSigns();
        outputChangesByReplaceAlone();
        stateTellsAll();
        refusedChangesNothing();
        Check.end();
    }

    private static void wholeAsksForItsPlaces() {
        PatternSearch search = Check.ready("a*", "aaa");
        int[][] wrong = {{-1, 0}, {0, 4}, {2, 1}, {4, 4}, {-1, -1}, {3, 2}, {0, -1},
            {Integer.MIN_VALUE, Integer.MAX_VALUE}, {0, Integer.MAX_VALUE}, {0, 32}, {-32, 0}};
        for (int[] pair : wrong) {
            Check.due("whole(" + pair[0] + ", " + pair[1] + ")", search.whole(pair[0], pair[1]), Check.REFUSED);
        }
        for (int from = 0; from <= 3; from++) {
            for (int to = from; to <= 3; to++) {
                Check.due("whole(" + from + ", " + to + ") of a*", search.whole(from, to), 1);
            }
        }
    }

    private static void wholeTakesAnyWay() {
        wholes("a|ab|abc", "abc", "0111");
        wholes("a*?", "aab", "1110");
        wholes("a{2,3}?", "aaaa", "00110");
        wholes("(a|ab)(c|bcd)?", "abcd", "01111");
        wholes("", "a", "10");
        wholes("(ab)*", "ababa", "101010");
        wholes("[^b]b", "ab", "001");
        PatternSearch search = Check.ready("b", "abb");
        Check.due("whole(1, 2)", search.whole(1, 2), 1);
        Check.due("whole(1, 3)", search.whole(1, 3), 0);
        Check.due("whole(0, 2)", search.whole(0, 2), 0);
        Check.due("whole(3, 3)", search.whole(3, 3), 0);
    }

    /** The answers of whole(0, 0), whole(0, 1) and so on to the text's end. */
    private static void wholes(String pattern, String text, String answers) {
        PatternSearch search = Check.ready(pattern, text);
        for (int to = 0; to <= text.length(); to++) {
            Check.due("whole(0, " + to + ") of " + pattern, search.whole(0, to), answers.charAt(to) - '0');
        }
    }

    private static void wholeKeepsTheEdges() {
        wholes("a$", "aa", "000");
        wholes("a+$", "aa", "001");
        wholes("^a", "aa", "010");
        PatternSearch search = Check.ready("^a$|b$", "ab");
        Check.due("whole(0, 1)", search.whole(0, 1), 0);
        Check.due("whole(1, 2)", search.whole(1, 2), 1);
        search = Check.ready("^b", "ab");
        Check.due("whole(1, 2) of ^b", search.whole(1, 2), 0);
        search = Check.ready("$", "ab");
        Check.due("whole(2, 2) of $", search.whole(2, 2), 1);
        Check.due("whole(1, 1) of $", search.whole(1, 1), 0);
    }

    private static void matchesCountsAll() {
        counts("a", "banana", 3);
        counts("a", "", 0);
        counts("", "", 1);
        counts("", "abc", 4);
        counts("a*", "aab", 3);
        counts("a*", "baac", 4);
        counts("a*?", "aa", 3);
        counts("aa", "aaaaa", 2);
        counts("$", "ab", 1);
        counts("^", "ab", 1);
        counts("^a", "aa", 1);
        counts("^|$", "ab", 2);
        counts("a|$", "aa", 3);
        counts("x", "abc", 0);
        counts("a??", "aaaaaaaaaaaaaaaaaaaaaaaaaaaaaa", 31);
        counts(".", "aaaaaaaaaaaaaaaaaaaaaaaaaaaaaa", 30);
    }

    private static void counts(String pattern, String text, int count) {
        PatternSearch search = Check.ready(pattern, text);
        Check.due("matches() of " + pattern + " in '" + text + "'", search.matches(), count);
        Check.due("group(0, false) behind matches()", search.group(0, false), Check.NONE);
    }

    private static void replacePutsGroups() {
        replaces("(a)(b)", "xabyab", 0, "xabyab");
        replaces("(a)(b)", "xabyab", 1, "xaya");
        replaces("(a)(b)", "xabyab", 2, "xbyb");
        replaces("(a)(b)", "xabyab", 3, "xy");
        replaces("(a)|(b)", "cab", 1, "ca");
        replaces("(a)|(b)", "cab", 2, "cb");
        replaces("b*", "abba", 0, "abba");
        replaces("b*", "abba", 1, "aa");
        replaces("(b)*", "abba", 1, "aba");
        replaces("()", "abc", 1, "abc");
        replaces("x", "abc", 6, "abc");
        replaces("a", "", 0, "");
        replaces(".*", "abc", 6, "");
        replaces("a(.)", "abacad", 1, "bcd");
        replaces("(((((([ab]))))))c", "acbcc", 6, "abc");
        replaces(".", "aaaaaaaaaaaaaaaaaaaaaaaaaaaaaa", 0, "aaaaaaaaaaaaaaaaaaaaaaaaaaaaaa");
        replaces("", "aaaaaaaaaaaaaaaaaaaaaaaaaaaaaa", 0, "aaaaaaaaaaaaaaaaaaaaaaaaaaaaaa");
    }

    private static void replaces(String pattern, String text, int group, String output) {
        PatternSearch search = Check.ready(pattern, text);
        String call = "replace(" + group + ") of " + pattern + " in '" + text + "'";
        Check.due(call, search.replace(group), output.length());
        Check.due("the output of " + call, Check.outputOf(search), output);
        Check.due("state(2) behind " + call, search.state(2), output.length());
        Check.due("state(1) behind " + call, search.state(1), text.length());
        Check.due("group(0, false) behind " + call, search.group(0, false), Check.NONE);
    }

    private static void replaceAsksForItsGroup() {
        PatternSearch search = Check.ready("(a)b", "ab");
        search.replace(1);
        int[] wrong = {-1, 7, Integer.MIN_VALUE, Integer.MAX_VALUE};
        for (int group : wrong) {
            Check.due("replace(" + group + ")", search.replace(group), Check.REFUSED);
            Check.due("the output behind it", Check.outputOf(search), "a");
        }
        Check.due("replace(6)", search.replace(6), 0);
    }

    private static void outputTellsSigns() {
        PatternSearch search = Check.ready("b", " b~");
        Check.due("output(0) at first", search.output(0), Check.NONE);
        search.replace(0);
        int[] signs = {' ', 'b', '~'};
        for (int i = 0; i < signs.length; i++) {
            Check.due("output(" + i + ")", search.output(i), signs[i]);
        }
        int[] wrong = {-1, 3, 29, 30, 31, Integer.MIN_VALUE, Integer.MAX_VALUE};
        for (int i : wrong) {
            Check.due("output(" + i + ")", search.output(i), Check.NONE);
        }
        search.replace(1);
        Check.due("output(1) of the shorter one", search.output(1), (int) '~');
        Check.due("output(2) of the shorter one", search.output(2), Check.NONE);
    }

    private static void outputChangesByReplaceAlone() {
        PatternSearch search = Check.ready("b", "abc");
        search.replace(1);
        search.text('b');
        search.find(0);
        search.matches();
        search.whole(0, 1);
        search.compile();
        Check.due("the output", Check.outputOf(search), "ac");
        search.newText();
        search.newPattern();
        search.replace(0);
        Check.due("the output behind newText, newPattern and a refused replace", Check.outputOf(search), "ac");
        search.compile();
        Check.due("replace(0)", search.replace(0), 0);
        Check.due("output(0)", search.output(0), Check.NONE);
    }

    private static void stateTellsAll() {
        PatternSearch search = Check.ready("(a)b*", "xab");
        search.replace(1);
        int[] due = {5, 3, 2, 1, 6};
        for (int what = 0; what < due.length; what++) {
            Check.due("state(" + what + ")", search.state(what), due[what]);
        }
        int[] wrong = {-1, 5, Integer.MIN_VALUE, Integer.MAX_VALUE};
        for (int what : wrong) {
            Check.due("state(" + what + ")", search.state(what), Check.REFUSED);
        }
        search.pattern('c');
        Check.due("state(3) of a changed pattern", search.state(3), 0);
        Check.due("state(4) of a changed pattern", search.state(4), Check.NONE);
        search.newPattern();
        search.compile();
        Check.due("state(4) of an empty pattern", search.state(4), 0);
    }

    private static void refusedChangesNothing() {
        PatternSearch search = Check.ready("(a)(b)?b{1,2}?c?d?e?f?g?h?ij", "xabijabbi");
        search.replace(1);
        search.find(1);
        String before = Check.everythingOf(search);
        refuseAll(search);
        search.pattern('x');
        Check.due("all that the face tells behind REFUSED", Check.everythingOf(search), before);
        search = Check.withPattern("a");
        Check.putText(search, "aa");
        before = Check.everythingOf(search);
        refuseAll(search);
        search.find(0);
        search.whole(0, 0);
        search.matches();
        search.replace(0);
        Check.due("the same with no pattern READY", Check.everythingOf(search), before);
    }

    private static void refuseAll(PatternSearch search) {
        int[] answers = {
            search.pattern(31), search.pattern(127), search.text(31), search.text(127), search.find(-1), search.find(31),
            search.group(-1, true), search.group(7, false), search.whole(1, 0), search.whole(0, 31), search.whole(-1, 0),
            search.replace(-1), search.replace(7), search.state(-1), search.state(5),
        };
        for (int answer : answers) {
            Check.due("a call with wrong numbers", answer, Check.REFUSED);
        }
    }
}
