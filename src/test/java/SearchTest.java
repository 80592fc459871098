/** Promises 6 to 9, sentence by sentence: text, newText, find and group. */
public final class SearchTest {
    public static void main(String[] args) {
        textPutsASign();
        textOutOfRange();
        textIsFull();
        textForgets();
        textAnswersTheLength();
        newTextEmpties();
        newTextForgets();
        newTextAnswers();
        findFromItsPlaces();
        findAnswersThePlace();
        findRemembers();
        findNone();
        groupOfTheLastFind();
        groupBounds();
        groupWithNothingFound();
        groupThatIsNotThere();
        groupThatCaughtNothing();
        groupOutOfRange();
        Check.end();
    }

    private static void textPutsASign() {
        Check.sentence("Promise 6: Puts a sign 32 .. 126 at the end of the text");
        PatternSearch search = Check.ready("", "");
        search.text(126);
        search.text(32);
        search.text('a');
        search.replace(0);
        Check.due("the text", Check.outputOf(search), "~ a");
    }

    private static void textOutOfRange() {
        Check.sentence("Promise 6: a sign 32 .. 126");
        int[] wrong = {31, 127, 0, -1, 128, 255, Integer.MIN_VALUE, Integer.MAX_VALUE, 'a' + 256, 'a' + 65536, 'a' - 256};
        PatternSearch search = new PatternSearch();
        for (int sign : wrong) {
            Check.due("text(" + sign + ")", search.text(sign), Check.REFUSED);
            Check.due("state(1) behind it", search.state(1), 0);
        }
        Check.due("text(32)", search.text(32), 1);
        Check.due("text(126)", search.text(126), 2);
    }

    private static void textIsFull() {
        Check.sentence("Promise 6: it has 30 signs: REFUSED.");
        PatternSearch search = Check.ready("b", "b".repeat(29));
        Check.due("the 30th sign", search.text('b'), 30);
        search.find(29);
        Check.due("the 31st sign", search.text('b'), Check.REFUSED);
        Check.due("state(1)", search.state(1), 30);
        Check.due("what was found, which stays", Check.boundsOf(search, 0), "29-30");
        Check.due("find(30)", search.find(30), Check.NONE);
        Check.due("find(31)", search.find(31), Check.REFUSED);
        Check.due("matches()", search.matches(), 30);
        search.newText();
        Check.due("text('b') behind newText", search.text('b'), 1);
    }

    private static void textForgets() {
        Check.sentence("Promise 6: What was found is forgotten.");
        PatternSearch search = Check.ready("(a)", "a");
        search.find(0);
        Check.due("text('b')", search.text('b'), 2);
        Check.due("bounds", Check.boundsOf(search, 1), "none none");
        Check.due("state(3)", search.state(3), 1);
        Check.due("find(0)", search.find(0), 0);
        Check.due("text(31)", search.text(31), Check.REFUSED);
        Check.due("bounds behind REFUSED", Check.boundsOf(search, 1), "0-1 0-1");
    }

    private static void textAnswersTheLength() {
        Check.sentence("Promise 6: Answers the length.");
        PatternSearch search = new PatternSearch();
        for (int length = 1; length <= 30; length++) {
            Check.due("text('b')", search.text('b'), length);
            Check.due("state(1)", search.state(1), length);
        }
    }

    private static void newTextEmpties() {
        Check.sentence("Promise 7: The text is empty");
        PatternSearch search = Check.ready("a*", "aa");
        search.replace(0);
        search.newText();
        Check.due("state(1)", search.state(1), 0);
        Check.due("the pattern's length", search.state(0), 2);
        Check.due("the output's length", search.state(2), 2);
        Check.due("state(3)", search.state(3), 1);
        Check.due("find(1)", search.find(1), Check.REFUSED);
        Check.due("find(0)", search.find(0), 0);
        Check.due("bounds", Check.boundsOf(search, 0), "0-0");
        Check.due("text('b')", search.text('b'), 1);
        Check.due("find(0) in the new text", search.find(0), 0);
        Check.due("its bounds", Check.boundsOf(search, 0), "0-0");
    }

    private static void newTextForgets() {
        Check.sentence("Promise 7: what was found is forgotten.");
        PatternSearch search = Check.ready("(a)", "a");
        search.find(0);
        search.newText();
        Check.due("bounds", Check.boundsOf(search, 1), "none none");
        search = Check.ready("()", "");
        search.find(0);
        Check.due("bounds in an empty text", Check.boundsOf(search, 1), "0-0 0-0");
        search.newText();
        Check.due("bounds behind newText of an empty one", Check.boundsOf(search, 1), "none none");
    }

    private static void newTextAnswers() {
        Check.sentence("Promise 7: Answers 0.");
        PatternSearch search = new PatternSearch();
        Check.due("newText() of a new object", search.newText(), 0);
        Check.putText(search, "a".repeat(30));
        Check.due("newText() of a full one", search.newText(), 0);
        Check.due("newText() again", search.newText(), 0);
    }

    private static void findFromItsPlaces() {
        Check.sentence("Promise 8: from 0 .. L.");
        String[] texts = {"", "b", "ba", "a".repeat(30)};
        for (String text : texts) {
            PatternSearch search = Check.ready("", text);
            int length = text.length();
            search.find(length);
            int[] wrong = {-1, length + 1, 31, 32, 64, -32, Integer.MIN_VALUE, Integer.MAX_VALUE};
            for (int from : wrong) {
                Check.due("find(" + from + ") in '" + text + "'", search.find(from), Check.REFUSED);
                Check.due("what was found before it", Check.boundsOf(search, 0), length + "-" + length);
            }
            Check.due("find(0) in '" + text + "'", search.find(0), 0);
            Check.due("find(" + length + ") in '" + text + "'", search.find(length), length);
        }
    }

    private static void findAnswersThePlace() {
        Check.sentence("Promise 8: FIND from there: its place");
        PatternSearch search = Check.ready("a+", "baac");
        int[] places = {1, 1, 2, Check.NONE, Check.NONE};
        for (int from = 0; from < places.length; from++) {
            Check.due("find(" + from + ")", search.find(from), places[from]);
        }
        Check.due("find(1) behind find(4)", search.find(1), 1);
    }

    private static void findRemembers() {
        Check.sentence("Promise 8: and it is what was FOUND");
        PatternSearch search = Check.ready("(a)b", "abxab");
        search.find(0);
        Check.due("bounds behind find(0)", Check.boundsOf(search, 1), "0-2 0-1");
        search.find(1);
        Check.due("bounds behind find(1)", Check.boundsOf(search, 1), "3-5 3-4");
        search.find(6);
        Check.due("bounds behind a refused find", Check.boundsOf(search, 1), "3-5 3-4");
    }

    private static void findNone() {
        Check.sentence("Promise 8: NONE if there is none, and nothing is FOUND then.");
        PatternSearch search = Check.ready("(a)b", "abxab");
        search.find(0);
        Check.due("find(4)", search.find(4), Check.NONE);
        Check.due("bounds", Check.boundsOf(search, 1), "none none");
        search.find(0);
        Check.due("find(5)", search.find(5), Check.NONE);
        Check.due("bounds", Check.boundsOf(search, 1), "none none");
    }

    private static void groupOfTheLastFind() {
        Check.sentence("Promise 9: Of what was FOUND last by find");
        PatternSearch search = Check.ready("(a)b", "abxab");
        search.matches();
        search.replace(1);
        search.whole(0, 2);
        Check.due("bounds behind matches, replace and whole", Check.boundsOf(search, 1), "none none");
        search.find(0);
        search.find(2);
        Check.due("bounds behind find(0) and find(2)", Check.boundsOf(search, 1), "3-5 3-4");
        search.matches();
        search.replace(1);
        search.whole(0, 2);
        search.whole(0, 1);
        search.output(0);
        search.state(0);
        search.fault();
        Check.due("bounds behind calls that find nothing", Check.boundsOf(search, 1), "3-5 3-4");
    }

    private static void groupBounds() {
        Check.sentence("Promise 9: group 0 is the whole match, 1 .. 6 that group of the pattern; where it begins, or (end) where it ends.");
        PatternSearch search = Check.ready("x(b)(c)(d)(e)(f)(g)y", "xxbcdefgyy");
        search.find(0);
        Check.due("group(0, false)", search.group(0, false), 1);
        Check.due("group(0, true)", search.group(0, true), 9);
        for (int group = 1; group <= 6; group++) {
            Check.due("group(" + group + ", false)", search.group(group, false), group + 1);
            Check.due("group(" + group + ", true)", search.group(group, true), group + 2);
        }
        Check.finds("(.*)", "a".repeat(30), 1, "0-30 0-30");
        Check.findsFrom(30, "()", "a".repeat(30), 1, "30-30 30-30");
    }

    private static void groupWithNothingFound() {
        Check.sentence("Promise 9: Nothing is FOUND, [...]: NONE.");
        PatternSearch search = Check.ready("(a)", "xa");
        Check.due("bounds", Check.boundsOf(search, 6), "none none none none none none none");
        search.find(2);
        Check.due("bounds behind NONE", Check.boundsOf(search, 6), "none none none none none none none");
    }

    private static void groupThatIsNotThere() {
        Check.sentence("Promise 9: no such group [...]: NONE.");
        PatternSearch search = Check.ready("(a)(b)(c)(d)(e)(f)", "abcdef");
        search.find(0);
        Check.due("bounds of six", Check.boundsOf(search, 6), "0-6 0-1 1-2 2-3 3-4 4-5 5-6");
        Check.putPattern(search, "(a)bc");
        search.compile();
        search.find(0);
        Check.due("bounds of one", Check.boundsOf(search, 6), "0-3 0-1 none none none none none");
        Check.putPattern(search, "c");
        search.compile();
        search.find(0);
        Check.due("bounds of none", Check.boundsOf(search, 6), "2-3 none none none none none none");
        Check.putPattern(search, "a?b*c+?d{0,2}(|x)e?|f|b|c|d?");
        search.compile();
        search.find(0);
        Check.due("bounds of one behind many", Check.boundsOf(search, 6), "0-5 4-4 none none none none none");
    }

    private static void groupThatCaughtNothing() {
        Check.sentence("Promise 9: or it CAUGHT nothing: NONE.");
        PatternSearch search = Check.ready("(a)|(b)", "ab");
        search.find(0);
        Check.due("bounds of the first", Check.boundsOf(search, 2), "0-1 0-1 none");
        search.find(1);
        Check.due("bounds of the second", Check.boundsOf(search, 2), "1-2 none 1-2");
        Check.finds("a()", "a", 2, "0-1 1-1 none");
        Check.finds("a(b)?()", "a", 2, "0-1 none 1-1");
    }

    private static void groupOutOfRange() {
        Check.sentence("Promise 9: group not 0 .. 6: REFUSED.");
        PatternSearch search = Check.ready("(a)", "xa");
        int[] wrong = {-1, 7, 8, 13, 14, -7, Integer.MIN_VALUE, Integer.MAX_VALUE, 1 << 31, 1 << 30};
        for (int round = 0; round < 2; round++) {
            for (int group : wrong) {
                Check.due("group(" + group + ", false)", search.group(group, false), Check.REFUSED);
                Check.due("group(" + group + ", true)", search.group(group, true), Check.REFUSED);
            }
            // In the second round something is FOUND.
            Check.due("find(0)", search.find(0), 1);
        }
        Check.due("bounds", Check.boundsOf(search, 6), "1-2 1-2 none none none none none");
    }
}
