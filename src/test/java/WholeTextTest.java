/** Promises 10 to 14, sentence by sentence: whole, matches, replace, output and state. */
public final class WholeTextTest {
    private static final String LONGEST = "abcdefghijklmnopqrstuvwxyz0123";

    public static void main(String[] args) {
        wholeFromItsPlaces();
        wholeTakesAnyWay();
        wholeElse();
        wholeKeepsTheEnd();
        matchesCountsAll();
        replaceOfItsGroups();
        replacePutsTheStretch();
        replacePutsTheMatchItself();
        replaceWithoutSuchAGroup();
        replaceOfAGroupThatCaughtNothing();
        replaceAnswersTheLength();
        outputTellsSigns();
        outputIsEmptyAtFirst();
        outputIsChangedByReplaceAlone();
        outputOutside();
        stateOfLengths();
        stateOfReady();
        stateOfSize();
        stateElse();
        Check.end();
    }

    private static void wholeFromItsPlaces() {
        Check.sentence("Promise 10: from 0 .. L, to from .. L.");
        String[] texts = {"", "a", "aaa", "a".repeat(30)};
        for (String text : texts) {
            PatternSearch search = Check.ready("a*", text);
            int length = text.length();
            int[][] wrong = {{-1, 0}, {-1, -1}, {0, -1}, {0, length + 1}, {length + 1, length + 1}, {length, length - 1},
                {length + 1, length}, {length, length + 1}, {Integer.MIN_VALUE, Integer.MAX_VALUE}, {0, Integer.MAX_VALUE},
                {0, 31}, {0, 32}, {-32, 0}, {Integer.MIN_VALUE, 0}, {Integer.MAX_VALUE, Integer.MAX_VALUE}};
            for (int[] pair : wrong) {
                Check.due("whole(" + pair[0] + ", " + pair[1] + ") in '" + text + "'", search.whole(pair[0], pair[1]), Check.REFUSED);
            }
            Check.due("whole(0, 0) in '" + text + "'", search.whole(0, 0), 1);
            Check.due("whole(0, L) in '" + text + "'", search.whole(0, length), 1);
            Check.due("whole(L, L) in '" + text + "'", search.whole(length, length), 1);
        }
        everyPairOfPlaces();
    }

    private static void everyPairOfPlaces() {
        PatternSearch search = Check.ready("a*", "aaaaa");
        for (int from = -1; from <= 6; from++) {
            for (int to = -1; to <= 6; to++) {
                boolean good = from >= 0 && to >= from && to <= 5;
                Check.due("whole(" + from + ", " + to + ")", search.whole(from, to), good ? 1 : Check.REFUSED);
            }
        }
    }

    private static void wholeTakesAnyWay() {
        Check.sentence("Promise 10: 1 if there is a way to match the whole pattern from 'from' to 'to'");
        Check.wholes("a|ab|abc", "abc", "0111");
        Check.wholes("a*?", "aab", "1110");
        Check.wholes("a{2,3}?", "aaaa", "00110");
        Check.wholes("(a|ab)(c|bcd)?", "abcd", "01111");
        Check.wholes("", "a", "10");
        Check.wholes("(ab)*", "ababa", "101010");
        Check.wholes("(a+)+b?", "aaab", "01111");
        PatternSearch search = Check.ready(".*", LONGEST);
        Check.due("whole(0, 30)", search.whole(0, 30), 1);
        Check.due("whole(29, 30)", search.whole(29, 30), 1);
        Check.due("whole(30, 30)", search.whole(30, 30), 1);
    }

    private static void wholeElse() {
        Check.sentence("Promise 10: else 0.");
        PatternSearch search = Check.ready("b", "abb");
        Check.due("whole(1, 2)", search.whole(1, 2), 1);
        Check.due("whole(1, 3), of which only a part is matched", search.whole(1, 3), 0);
        Check.due("whole(0, 2), where the match begins later", search.whole(0, 2), 0);
        Check.due("whole(1, 1)", search.whole(1, 1), 0);
        Check.due("whole(3, 3)", search.whole(3, 3), 0);
        search = Check.ready("bb", "abb");
        Check.due("whole(1, 2), where the match ends later", search.whole(1, 2), 0);
        Check.wholes("a", "", "0");
    }

    private static void wholeKeepsTheEnd() {
        Check.sentence("Promise 10: (L is the end of the text all the same, for '$')");
        Check.wholes("a$", "aa", "000");
        Check.wholes("a+$", "aa", "001");
        Check.wholes("$", "a", "00");
        Check.wholes("^a", "aa", "010");
        PatternSearch search = Check.ready("^a$|b$", "ab");
        Check.due("whole(0, 1)", search.whole(0, 1), 0);
        Check.due("whole(1, 2)", search.whole(1, 2), 1);
        search = Check.ready("^b", "ab");
        Check.due("whole(1, 2) of ^b", search.whole(1, 2), 0);
        search = Check.ready("$", "ab");
        Check.due("whole(2, 2) of $", search.whole(2, 2), 1);
        Check.due("whole(1, 1) of $", search.whole(1, 1), 0);
        search = Check.ready(".*$", LONGEST);
        Check.due("whole(0, 30)", search.whole(0, 30), 1);
        Check.due("whole(0, 29)", search.whole(0, 29), 0);
    }

    private static void matchesCountsAll() {
        Check.sentence("Promise 11: The number of ALL MATCHES.");
        Check.counts("a", "banana", 3);
        Check.counts("a", "bnn", 0);
        Check.counts("a", "", 0);
        Check.counts("", "", 1);
        Check.counts("", "abc", 4);
        Check.counts("", "a".repeat(30), 31);
        Check.counts(".", "a".repeat(30), 30);
        PatternSearch search = Check.ready("a", "aaa");
        search.find(2);
        Check.due("matches() behind find(2)", search.matches(), 3);
        Check.due("matches() again", search.matches(), 3);
        search.text('a');
        Check.due("matches() in a longer text", search.matches(), 4);
        search.newText();
        Check.due("matches() behind newText", search.matches(), 0);
    }

    private static void replaceOfItsGroups() {
        Check.sentence("Promise 12: group 0 .. 6.");
        PatternSearch search = Check.ready("(a)b", "ab");
        search.replace(1);
        int[] wrong = {-1, 7, 8, 14, Integer.MIN_VALUE, Integer.MAX_VALUE, 1 << 30};
        for (int group : wrong) {
            Check.due("replace(" + group + ")", search.replace(group), Check.REFUSED);
            Check.due("the output behind it", Check.outputOf(search), "a");
        }
        int[] lengths = {2, 1, 0, 0, 0, 0, 0};
        for (int group = 0; group <= 6; group++) {
            Check.due("replace(" + group + ")", search.replace(group), lengths[group]);
        }
    }

    private static void replacePutsTheStretch() {
        Check.sentence("Promise 12: The output becomes the text with each of ALL MATCHES replaced by the stretch of that group in it");
        Check.replaces("(a)(b)", "xabyab", 1, "xaya");
        Check.replaces("(a)(b)", "xabyab", 2, "xbyb");
        Check.replaces("a(.)", "abacad", 1, "bcd");
        Check.replaces("(b)*", "abba", 1, "aba");
        Check.replaces("(((((([ab]))))))c", "acbcc", 6, "abc");
        Check.replaces("(b)(c)(d)(e)(f)(g)", "abcdefgh", 6, "agh");
        Check.replaces("(.*)", "abc", 1, "abc");
        Check.replaces("(.)", LONGEST, 1, LONGEST);
        Check.replaces(".(.).", LONGEST, 1, "behknqtwz2");
        Check.replaces("x", "abc", 0, "abc");
        Check.replaces("(x)", "", 1, "");
    }

    private static void replacePutsTheMatchItself() {
        Check.sentence("Promise 12: (0: the match itself)");
        Check.replaces("(a)(b)", "xabyab", 0, "xabyab");
        Check.replaces("b*", "abba", 0, "abba");
        Check.replaces(".", LONGEST, 0, LONGEST);
        Check.replaces("", LONGEST, 0, LONGEST);
        Check.replaces("^", "ab", 0, "ab");
        Check.replaces("$", "ab", 0, "ab");
        Check.replaces("^a?", "ab", 0, "ab");
        Check.replaces("a", "", 0, "");
    }

    private static void replaceWithoutSuchAGroup() {
        Check.sentence("Promise 12: nothing if there is no such group");
        Check.replaces("(a)(b)", "xabyab", 3, "xy");
        Check.replaces("(a)(b)", "xabyab", 6, "xy");
        Check.replaces("b*", "abba", 1, "aa");
        Check.replaces(".*", "abc", 6, "");
        Check.replaces("x", "abc", 6, "abc");
        PatternSearch search = Check.ready("(a)(b)", "ab");
        search.find(0);
        search.replace(2);
        Check.putPattern(search, "(a)b");
        search.compile();
        Check.due("replace(2) behind a pattern with more groups", search.replace(2), 0);
    }

    private static void replaceOfAGroupThatCaughtNothing() {
        Check.sentence("Promise 12: or it CAUGHT nothing.");
        Check.replaces("(a)|(b)", "cab", 1, "ca");
        Check.replaces("(a)|(b)", "cab", 2, "cb");
        Check.replaces("(a)?b", "abb", 1, "a");
        Check.replaces("()", "abc", 1, "abc");
        Check.replaces("a()", "abc", 1, "bc");
    }

    private static void replaceAnswersTheLength() {
        Check.sentence("Promise 12: Answers the output's length.");
        PatternSearch search = Check.ready("(a)b*", "abbcab");
        int[] lengths = {6, 3, 1};
        for (int group = 0; group < lengths.length; group++) {
            Check.due("replace(" + group + ")", search.replace(group), lengths[group]);
            Check.due("state(2)", search.state(2), lengths[group]);
        }
        Check.due("the text's length", search.state(1), 6);
        search.newText();
        Check.due("replace(0) of an empty text", search.replace(0), 0);
        Check.due("replace(0) of a full one", Check.ready("a*", "a".repeat(30)).replace(0), 30);
    }

    private static void outputTellsSigns() {
        Check.sentence("Promise 13: Sign i of the output, from 0");
        PatternSearch search = Check.ready("b", " b~");
        search.replace(0);
        int[] signs = {' ', 'b', '~'};
        for (int i = 0; i < signs.length; i++) {
            Check.due("output(" + i + ")", search.output(i), signs[i]);
        }
        search = Check.ready("", LONGEST);
        search.replace(0);
        for (int i = 0; i < 30; i++) {
            Check.due("output(" + i + ")", search.output(i), (int) LONGEST.charAt(i));
        }
    }

    private static void outputIsEmptyAtFirst() {
        Check.sentence("Promise 13: (it is empty at first");
        PatternSearch search = new PatternSearch();
        Check.due("output(0) of a new object", search.output(0), Check.NONE);
        Check.due("state(2) of a new object", search.state(2), 0);
        search = Check.ready("a", "a");
        search.find(0);
        Check.due("output(0) behind find", search.output(0), Check.NONE);
    }

    private static void outputIsChangedByReplaceAlone() {
        Check.sentence("Promise 13: and only replace changes it)");
        PatternSearch search = Check.ready("b", "abc");
        search.replace(1);
        search.text('b');
        search.find(0);
        search.group(0, true);
        search.matches();
        search.whole(0, 1);
        search.compile();
        search.fault();
        Check.due("the output", Check.outputOf(search), "ac");
        search.newText();
        search.newPattern();
        search.replace(0);
        search.pattern('(');
        search.compile();
        Check.due("the output with no pattern READY", Check.outputOf(search), "ac");
        search.newPattern();
        search.compile();
        Check.due("the output with the next pattern", Check.outputOf(search), "ac");
        Check.due("replace(0)", search.replace(0), 0);
        Check.due("output(0)", search.output(0), Check.NONE);
    }

    private static void outputOutside() {
        Check.sentence("Promise 13: NONE if i is not a place of it.");
        int[] wrong = {-1, 30, 31, Integer.MIN_VALUE, Integer.MAX_VALUE};
        PatternSearch search = Check.ready("b", "abc");
        for (int i : wrong) {
            Check.due("output(" + i + ") of an empty one", search.output(i), Check.NONE);
        }
        search.replace(0);
        Check.due("output(2)", search.output(2), (int) 'c');
        Check.due("output(3)", search.output(3), Check.NONE);
        search.replace(1);
        Check.due("output(1) of the shorter one", search.output(1), (int) 'c');
        Check.due("output(2) of the shorter one", search.output(2), Check.NONE);
        search = Check.ready("", LONGEST);
        search.replace(0);
        for (int i : wrong) {
            Check.due("output(" + i + ") of a full one", search.output(i), Check.NONE);
        }
    }

    private static void stateOfLengths() {
        Check.sentence("Promise 14: 0: the length of the pattern; 1 of the text; 2 of the output");
        PatternSearch search = new PatternSearch();
        checkLengths(search, 0, 0, 0);
        Check.putPattern(search, "(a)b*");
        Check.putText(search, "xab");
        checkLengths(search, 5, 3, 0);
        search.compile();
        search.replace(1);
        checkLengths(search, 5, 3, 2);
        search.newText();
        checkLengths(search, 5, 0, 2);
        search.newPattern();
        checkLengths(search, 0, 0, 2);
        Check.putPattern(search, "a".repeat(28));
        Check.putText(search, "b".repeat(30));
        search.compile();
        search.replace(0);
        checkLengths(search, 28, 30, 30);
    }

    private static void checkLengths(PatternSearch search, int pattern, int text, int output) {
        Check.due("state(0)", search.state(0), pattern);
        Check.due("state(1)", search.state(1), text);
        Check.due("state(2)", search.state(2), output);
    }

    private static void stateOfReady() {
        Check.sentence("Promise 14: 3: 1 if a pattern is READY, else 0");
        PatternSearch search = new PatternSearch();
        Check.due("state(3) of a new object", search.state(3), 0);
        search.compile();
        Check.due("state(3) behind compile", search.state(3), 1);
        search.pattern('a');
        Check.due("state(3) behind pattern", search.state(3), 0);
        search.compile();
        search.newPattern();
        Check.due("state(3) behind newPattern", search.state(3), 0);
        Check.putPattern(search, "(");
        search.compile();
        Check.due("state(3) behind BAD", search.state(3), 0);
    }

    private static void stateOfSize() {
        Check.sentence("Promise 14: 4: the SIZE of the READY pattern, NONE if there is none.");
        PatternSearch search = Check.withPattern("(a)b*");
        Check.due("state(4) before compile", search.state(4), Check.NONE);
        search.compile();
        Check.due("state(4)", search.state(4), 6);
        search.pattern('c');
        Check.due("state(4) behind pattern", search.state(4), Check.NONE);
        search.compile();
        Check.due("state(4) of the longer one", search.state(4), 7);
        search.newPattern();
        Check.due("state(4) behind newPattern", search.state(4), Check.NONE);
        search.compile();
        Check.due("state(4) of an empty pattern", search.state(4), 0);
        Check.compiles("(a{0,6}){6}", 1, 120);
        Check.notReady("(a{0,6}){6}a", Check.LARGE);
    }

    private static void stateElse() {
        Check.sentence("Promise 14: Else REFUSED.");
        int[] wrong = {-1, 5, 6, Integer.MIN_VALUE, Integer.MAX_VALUE};
        for (int what : wrong) {
            Check.due("state(" + what + ") of a new object", new PatternSearch().state(what), Check.REFUSED);
            Check.due("state(" + what + ")", Check.ready("a", "a").state(what), Check.REFUSED);
        }
    }
}
