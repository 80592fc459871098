/** Promises 6 to 9: text, newText, find and group, with what a way prefers and what a group catches. */
public final class SearchTest {
    public static void main(String[] args) {
        textTakesSigns();
        textHasALimit();
        textForgetsWhatWasFound();
        newTextEmpties();
        findAsksForItsPlace();
        findTakesTheLeastPlace();
        findRemembers();
        signsAndClasses();
        edges();
        choices();
        repetitions();
        nestedRepetitions();
        groupsCatchLast();
        groupAsksForItsNumber();
        Check.end();
    }

    private static void textTakesSigns() {
        PatternSearch search = new PatternSearch();
        int[] wrong = {31, 127, 0, -1, Integer.MIN_VALUE, Integer.MAX_VALUE, 'a' + 256, 'a' + 65536};
        for (int sign : wrong) {
            Check.due("text(" + sign + ")", search.text(sign), Check.REFUSED);
        }
        Check.due("state(1)", search.state(1), 0);
        Check.due("text(32)", search.text(32), 1);
        Check.due("text(126)", search.text(126), 2);
        Check.due("state(1)", search.state(1), 2);
        search.compile();
        search.replace(0);
        Check.due("both edges in the output", Check.outputOf(search), " ~");
    }

    private static void textHasALimit() {
        PatternSearch search = Check.ready("b", "");
        for (int length = 1; length <= 30; length++) {
            Check.due("text('b')", search.text('b'), length);
        }
        search.find(29);
        Check.due("the 31st sign", search.text('b'), Check.REFUSED);
        Check.due("state(1)", search.state(1), 30);
        Check.due("what was found behind REFUSED", Check.boundsOf(search, 0), "29-30");
        Check.due("find(30)", search.find(30), Check.NONE);
        Check.due("find(31)", search.find(31), Check.REFUSED);
        Check.due("matches()", search.matches(), 30);
    }

    private static void textForgetsWhatWasFound() {
        PatternSearch search = Check.ready("a", "a");
        search.find(0);
        Check.due("text(31)", search.text(31), Check.REFUSED);
        Check.due("group(0, true) behind REFUSED", search.group(0, true), 1);
        Check.due("text('b')", search.text('b'), 2);
        Check.due("group(0, false)", search.group(0, false), Check.NONE);
        Check.due("group(0, true)", search.group(0, true), Check.NONE);
        Check.due("state(3)", search.state(3), 1);
        Check.due("find(0)", search.find(0), 0);
    }

    private static void newTextEmpties() {
        PatternSearch search = Check.ready("a*", "aa");
        search.find(0);
        search.replace(0);
        Check.due("newText()", search.newText(), 0);
        Check.due("state(1)", search.state(1), 0);
        Check.due("state(2)", search.state(2), 2);
        Check.due("state(3)", search.state(3), 1);
        Check.due("group(0, false)", search.group(0, false), Check.NONE);
        Check.due("find(1)", search.find(1), Check.REFUSED);
        Check.due("find(0)", search.find(0), 0);
        Check.due("bounds", Check.boundsOf(search, 0), "0-0");
        Check.due("newText() again", search.newText(), 0);
        Check.due("text('a')", search.text('a'), 1);
    }

    private static void findAsksForItsPlace() {
        PatternSearch search = Check.ready("a", "ba");
        search.find(0);
        int[] wrong = {-1, 3, Integer.MIN_VALUE, Integer.MAX_VALUE};
        for (int from : wrong) {
            Check.due("find(" + from + ")", search.find(from), Check.REFUSED);
            Check.due("what was found behind it", Check.boundsOf(search, 0), "1-2");
        }
        Check.due("find(2)", search.find(2), Check.NONE);
    }

    private static void findTakesTheLeastPlace() {
        PatternSearch search = Check.ready("ab", "abcab");
        int[] places = {0, 3, 3, 3, Check.NONE, Check.NONE};
        for (int from = 0; from < places.length; from++) {
            Check.due("find(" + from + ")", search.find(from), places[from]);
        }
        finds("b|abc", "xabc", 0, "1-4");
        finds("", "abc", 0, "0-0");
        finds("c?", "abc", 0, "0-0");
        finds("c+", "abcc", 0, "2-4");
    }

    private static void findRemembers() {
        PatternSearch search = Check.ready("(a)b", "abxab");
        Check.due("find(1)", search.find(1), 3);
        Check.due("bounds", Check.boundsOf(search, 1), "3-5 3-4");
        search.whole(0, 2);
        search.matches();
        search.replace(1);
        Check.due("bounds behind whole, matches and replace", Check.boundsOf(search, 1), "3-5 3-4");
        Check.due("find(4)", search.find(4), Check.NONE);
        Check.due("bounds behind NONE", Check.boundsOf(search, 1), "none none");
    }

    /** What find(0) finds and where its groups are, "none" for what has no match at all. */
    private static void finds(String pattern, String text, int groups, String bounds) {
        PatternSearch search = Check.ready(pattern, text);
        int place = search.find(0);
        Check.due("bounds of " + pattern + " in '" + text + "'", Check.boundsOf(search, groups), bounds);
        Check.due("find(0) of " + pattern + " in '" + text + "'", place, search.group(0, false));
    }

    private static void signsAndClasses() {
        finds(".", " ", 0, "0-1");
        finds(".", "~", 0, "0-1");
        finds(".", "", 0, "none");
        finds("-,", "x-,", 0, "1-3");
        finds("[b-d]", "aexd", 0, "3-4");
        finds("[bd]", "acxd", 0, "3-4");
        finds("[^b-d]", "bcda", 0, "3-4");
        finds("[^ -~]", "abc", 0, "none");
        finds("[^a]", "", 0, "none");
        finds("[.]", "a.", 0, "1-2");
        finds("[$]", "a$", 0, "1-2");
        finds("[?-A]+", ">?@AB", 0, "1-4");
        finds("[^?-A]+", "?@AB>", 0, "3-5");
        finds("[ab-dx]+", "eabcdxe", 0, "1-6");
        finds("[~]", "a~", 0, "1-2");
        finds("[ ]", "a ", 0, "1-2");
        finds("A", "aA", 0, "1-2");
    }

    private static void edges() {
        finds("^a", "aa", 0, "0-1");
        PatternSearch search = Check.ready("^a", "aa");
        Check.due("find(1) of ^a", search.find(1), Check.NONE);
        finds("a$", "aa", 0, "1-2");
        finds("$", "ab", 0, "2-2");
        finds("^$", "", 0, "0-0");
        finds("^$", "a", 0, "none");
        finds("$^", "", 0, "0-0");
        finds("a^b", "ab", 0, "none");
        finds("a$b", "ab", 0, "none");
        finds("(^|b)a", "ca ba", 1, "3-5 3-4");
        finds("^{2}a", "a", 0, "0-1");
        finds("a(^)?b", "ab", 1, "0-2 none");
        finds("(^)?b", "b", 1, "0-1 0-0");
        finds("($)?", "b", 1, "0-0 none");
    }

    private static void choices() {
        finds("a|ab", "ab", 0, "0-1");
        finds("ab|a", "ab", 0, "0-2");
        finds("(a|ab)(c|bcd)", "abcd", 2, "0-4 0-1 1-4");
        finds("(a|ab)c", "abc", 1, "0-3 0-2");
        finds("|a", "a", 0, "0-0");
        finds("a|", "b", 0, "0-0");
        finds("x(|a)b", "xab", 1, "0-3 1-2");
        finds("(a)|(b)", "b", 2, "0-1 none 0-1");
        finds("a|b|c", "c", 0, "0-1");
    }

    private static void repetitions() {
        finds("a*", "aaa", 0, "0-3");
        finds("a*?", "aaa", 0, "0-0");
        finds("a*?$", "aaa", 0, "0-3");
        finds("a+", "aaa", 0, "0-3");
        finds("a+?", "aaa", 0, "0-1");
        finds("a+", "b", 0, "none");
        finds("a?", "aa", 0, "0-1");
        finds("a??", "aa", 0, "0-0");
        finds("a??b", "ab", 0, "0-2");
        finds("a{2}", "aaa", 0, "0-2");
        finds("a{2}?", "aaa", 0, "0-2");
        finds("a{2}", "a", 0, "none");
        finds("a{2,3}", "aaaa", 0, "0-3");
        finds("a{2,3}?", "aaaa", 0, "0-2");
        finds("a{2,3}?$", "aaaa", 0, "1-4");
        finds("a{0,2}", "aaa", 0, "0-2");
        finds("a{0,2}?", "aaa", 0, "0-0");
        finds("a{0,2}b", "aaab", 0, "1-4");
        finds("(a*)(a*)", "aa", 2, "0-2 0-2 2-2");
        finds("(a*?)(a*)", "aa", 2, "0-2 0-0 0-2");
        finds("(a+)(a+)", "aaa", 2, "0-3 0-2 2-3");
        finds("(a??)(a?)", "a", 2, "0-1 0-0 0-1");
        finds("(a{1,3}?)(a*)", "aaa", 2, "0-3 0-1 1-3");
        finds("(a{1,3})(a*)", "aaaa", 2, "0-4 0-3 3-4");
    }

    private static void nestedRepetitions() {
        finds("((a|ab)(c|bc)){1,2}", "abcac", 3, "0-5 3-5 3-4 4-5");
        finds("(a|ab|b)*c", "abbc", 1, "0-4 2-3");
        finds("(a+b?)+", "aabab", 1, "0-5 3-5");
        finds("(a+?b?)+", "aab", 1, "0-3 1-3");
        finds("((a+)+)+b", "aaab", 2, "0-4 0-3 0-3");
        finds("((a+?)+?)+b", "aaab", 2, "0-4 2-3 2-3");
        finds("(a?){2,4}", "aaa", 1, "0-3 3-3");
        finds("(a?){2,4}?", "aaa", 1, "0-2 1-2");
        finds("(a??){2,4}", "aaa", 1, "0-0 0-0");
        finds("(a*){3}", "aa", 1, "0-2 2-2");
        finds("(){0,2}", "a", 1, "0-0 0-0");
        finds("(){0,2}?", "a", 1, "0-0 none");
        finds("(a|aa){0,2}?c", "aac", 1, "0-3 1-2");
        finds("(a|aa){0,2}c", "aac", 1, "0-3 1-2");
        finds("(aa|a){0,2}?c", "aac", 1, "0-3 0-2");
        finds("(a*)?", "b", 1, "0-0 0-0");
        finds("(a*)??", "b", 1, "0-0 none");
    }

    private static void groupsCatchLast() {
        finds("(a|(b))+", "ba", 2, "0-2 1-2 0-1");
        finds("((a)|b)+", "ab", 2, "0-2 1-2 0-1");
        finds("((a)|(b)|(c))*", "abd", 4, "0-2 1-2 0-1 1-2 none");
        finds("(a)*", "b", 1, "0-0 none");
        finds("(a)*", "aab", 1, "0-2 1-2");
        finds("(a){2,3}", "aaaa", 1, "0-3 2-3");
        finds("(a)?b", "b", 1, "0-1 none");
        finds("((a)(b)?)+", "aba", 3, "0-3 2-3 2-3 1-2");
        finds("((((((a))))))", "xa", 6, "1-2 1-2 1-2 1-2 1-2 1-2 1-2");
        finds("(a(b)c)|(a(b)d)", "abd", 4, "0-3 none none 0-3 1-2");
    }

    private static void groupAsksForItsNumber() {
        PatternSearch search = Check.ready("(a)", "xa");
        Check.due("group(0, false) with nothing found", search.group(0, false), Check.NONE);
        Check.due("group(6, true) with nothing found", search.group(6, true), Check.NONE);
        search.find(0);
        int[] wrong = {-1, 7, Integer.MIN_VALUE, Integer.MAX_VALUE};
        for (int group : wrong) {
            Check.due("group(" + group + ", false)", search.group(group, false), Check.REFUSED);
            Check.due("group(" + group + ", true)", search.group(group, true), Check.REFUSED);
        }
        Check.due("bounds", Check.boundsOf(search, 6), "1-2 1-2 none none none none none");
        Check.putPattern(search, "(b)(c)(d)(e)(f)(g)");
        search.compile();
        Check.putText(search, "bcdefg");
        search.find(0);
        Check.due("bounds of six", Check.boundsOf(search, 6), "0-6 0-1 1-2 2-3 3-4 4-5 5-6");
        Check.putPattern(search, "c");
        search.compile();
        search.find(0);
        Check.due("bounds with fewer groups", Check.boundsOf(search, 6), "1-2 none none none none none none");
    }
}
