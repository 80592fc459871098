/** The terms TEXT, MATCHING, MATCH, FIND and ALL MATCHES, sentence by sentence. */
public final class MatchingTest {
    private static final String NOT_PLAIN = ".[]^$|()*+?{}";
    private static final String LONGEST = "abcdefghijklmnopqrstuvwxyz0123";

    public static void main(String[] args) {
        lengthOfAText();
        placesOfAText();
        waysGoOn();
        plainSigns();
        anySign();
        classes();
        classesOfOthers();
        oneSignAlone();
        begin();
        end();
        rowsOneAfterAnother();
        rowsPreferred();
        choices();
        onceOrNot();
        anyTimes();
        onceAtLeast();
        boundedTimes();
        groupsCatch();
        groupsCatchLast();
        groupsWithNothing();
        matchIsTheMostPreferred();
        findTakesTheLeastPlace();
        allMatches();
        allMatchesBehindEmptyOnes();
        allMatchesToTheEnd();
        Check.end();
    }

    private static void lengthOfAText() {
        Check.sentence("MATCHING. The TEXT has at most 30 signs, codes 32 .. 126");
        PatternSearch search = Check.ready("3.?", LONGEST.substring(0, 29));
        Check.due("find(0) in 29 signs", search.find(0), Check.NONE);
        Check.due("the 30th sign", search.text('3'), 30);
        Check.due("the 31st sign", search.text('4'), Check.REFUSED);
        Check.due("find(0)", search.find(0), 29);
        Check.due("group(0, true)", search.group(0, true), 30);
        for (int sign = 0; sign <= 300; sign++) {
            int due = sign >= 32 && sign <= 126 ? 1 : Check.REFUSED;
            Check.due("text(" + sign + ")", new PatternSearch().text(sign), due);
        }
    }

    private static void placesOfAText() {
        Check.sentence("at places 0, 1, ..; place L is its end.");
        PatternSearch search = Check.ready("", LONGEST);
        for (int place = 0; place <= 30; place++) {
            Check.due("find(" + place + ")", search.find(place), place);
        }
        for (int place = 0; place < 30; place++) {
            Check.findsFrom(0, LONGEST.substring(place, place + 1), LONGEST, 0, place + "-" + (place + 1));
        }
        Check.finds("$", "", 0, "0-0");
        Check.finds("$", LONGEST, 0, "30-30");
    }

    private static void waysGoOn() {
        Check.sentence("A way to match something goes from a place to a place not before it.");
        Check.finds("", "", 0, "0-0");
        Check.finds("(a*)(^)?", "aa", 2, "0-2 0-2 none");
        Check.finds(".{6}.{6}.{6}.{6}.{6}", LONGEST, 0, "0-30");
        Check.finds(".{6}.{6}.{6}.{6}.{6}.", LONGEST, 0, "none");
        Check.finds("(.)*", LONGEST, 1, "0-30 29-30");
    }

    private static void plainSigns() {
        Check.sentence("A plain sign, [...] matches one sign");
        for (char sign = 32; sign <= 126; sign++) {
            for (char other = 32; NOT_PLAIN.indexOf(sign) < 0 && other <= 126; other++) {
                wholeSign(String.valueOf(sign), other, sign == other);
            }
        }
    }

    private static void wholeSign(String pattern, char sign, boolean due) {
        PatternSearch search = Check.withPattern(pattern);
        search.compile();
        search.text(sign);
        Check.due("whole(0, 1) of " + pattern + " in '" + sign + "'", search.whole(0, 1), due ? 1 : 0);
    }

    private static void anySign() {
        Check.sentence("'.' (any sign)");
        for (char sign = 32; sign <= 126; sign++) {
            wholeSign(".", sign, true);
        }
        Check.finds(".", "", 0, "none");
        Check.findsFrom(2, ".", "ab", 0, "none");
    }

    private static void classes() {
        Check.sentence("a class (a sign that is in one of its items");
        for (char sign = 32; sign <= 126; sign++) {
            wholeSign("[ -~]", sign, true);
            wholeSign("[ ]", sign, sign == ' ');
            wholeSign("[~]", sign, sign == '~');
            wholeSign("[b-d]", sign, sign >= 'b' && sign <= 'd');
            wholeSign("[m-m]", sign, sign == 'm');
            wholeSign("[ac-dx]", sign, "acdx".indexOf(sign) >= 0);
            wholeSign("[aab-da-c]", sign, sign >= 'a' && sign <= 'd');
            wholeSign("[>-B]", sign, sign >= '>' && sign <= 'B');
            wholeSign("[?@]", sign, sign == '?' || sign == '@');
            wholeSign("[,-.]", sign, sign >= ',' && sign <= '.');
            wholeSign("[Z-_]", sign, sign >= 'Z' && sign <= '_');
            wholeSign("[.$|()*+?{}]", sign, ".$|()*+?{}".indexOf(sign) >= 0);
        }
    }

    private static void classesOfOthers() {
        Check.sentence("with '^' one that is in none)");
        for (char sign = 32; sign <= 126; sign++) {
            wholeSign("[^ -~]", sign, false);
            wholeSign("[^ ]", sign, sign != ' ');
            wholeSign("[^~]", sign, sign != '~');
            wholeSign("[^b-d]", sign, sign < 'b' || sign > 'd');
            wholeSign("[^ac-dx]", sign, "acdx".indexOf(sign) < 0);
            wholeSign("[^>-B]", sign, sign < '>' || sign > 'B');
        }
        Check.finds("[^a]", "", 0, "none");
        Check.finds("[^a]", "a", 0, "none");
    }

    private static void oneSignAlone() {
        Check.sentence("matches one sign");
        String[] patterns = {"a", ".", "[a]", "[^b]"};
        for (String pattern : patterns) {
            Check.wholes(pattern, "aa", "010");
        }
    }

    private static void begin() {
        Check.sentence("'^' matches the empty stretch at place 0");
        Check.finds("^", "ab", 0, "0-0");
        Check.finds("^", "", 0, "0-0");
        Check.findsFrom(1, "^", "ab", 0, "none");
        Check.findsFrom(1, "^b", "ab", 0, "none");
        Check.finds("a^b", "ab", 0, "none");
        Check.finds("^^a", "a", 0, "0-1");
        Check.finds("^{2}a", "a", 0, "0-1");
        Check.finds("(^)?b", "b", 1, "0-1 0-0");
        Check.finds("a(^)?b", "ab", 1, "0-2 none");
        Check.finds("(^|b)a", "ca ba", 1, "3-5 3-4");
        Check.counts("^", "ab", 1);
        Check.counts("^a", "aa", 1);
    }

    private static void end() {
        Check.sentence("'$' at place L.");
        Check.finds("$", "ab", 0, "2-2");
        Check.finds("$", "", 0, "0-0");
        Check.finds("a$", "aa", 0, "1-2");
        Check.finds("a$b", "ab", 0, "none");
        Check.finds("$$", "ab", 0, "2-2");
        Check.finds("^$", "", 0, "0-0");
        Check.finds("$^", "", 0, "0-0");
        Check.finds("^$", "a", 0, "none");
        Check.finds("($)?", "b", 1, "0-0 none");
        Check.findsFrom(1, "($)?", "b", 1, "1-1 1-1");
        Check.finds("3$", LONGEST, 0, "29-30");
        PatternSearch search = Check.ready("a$", "a");
        Check.due("find(0)", search.find(0), 0);
        search.text('b');
        Check.due("find(0) in a longer text", search.find(0), Check.NONE);
    }

    private static void rowsOneAfterAnother() {
        Check.sentence("A row matches its pieces one after another");
        Check.finds("abc", "aabcc", 0, "1-4");
        Check.finds("abc", "acb", 0, "none");
        Check.finds("", "abc", 0, "0-0");
        Check.finds("a?b?c?", "ac", 0, "0-2");
        Check.finds("()a()b()", "ab", 3, "0-2 0-0 1-1 2-2");
    }

    private static void rowsPreferred() {
        Check.sentence("the ways are preferred by the first piece's, then the second's, and so on.");
        Check.finds("(a*)(a*)", "aa", 2, "0-2 0-2 2-2");
        Check.finds("(a*?)(a*)", "aa", 2, "0-2 0-0 0-2");
        Check.finds("(a+)(a+)", "aaa", 2, "0-3 0-2 2-3");
        Check.finds("(a??)(a?)", "a", 2, "0-1 0-0 0-1");
        Check.finds("(a{1,3}?)(a*)", "aaa", 2, "0-3 0-1 1-3");
        Check.finds("(a{1,3})(a*)", "aaaa", 2, "0-4 0-3 3-4");
        Check.finds("(a|ab)(c|bcd)", "abcd", 2, "0-4 0-1 1-4");
        Check.finds("(a?)(a??)(a?)", "aa", 3, "0-2 0-1 1-1 1-2");
        Check.finds("(a|ab)(b|bb|)(b*)", "abbb", 3, "0-4 0-1 1-2 2-4");
    }

    private static void choices() {
        Check.sentence("A choice matches one of its rows; ways by an earlier row are preferred to those by a later one.");
        Check.finds("a|ab", "ab", 0, "0-1");
        Check.finds("ab|a", "ab", 0, "0-2");
        Check.finds("|a", "a", 0, "0-0");
        Check.finds("a|", "a", 0, "0-1");
        Check.finds("a|", "b", 0, "0-0");
        Check.finds("(a|ab)c", "abc", 1, "0-3 0-2");
        Check.finds("x(|a)b", "xab", 1, "0-3 1-2");
        Check.finds("(a)|(b)", "b", 2, "0-1 none 0-1");
        Check.finds("(a)|(a)|(a)", "a", 3, "0-1 0-1 none none");
        Check.finds("(a*?|b)c|(a+)", "aa", 2, "0-2 none 0-2");
        Check.finds("(a(b)c)|(a(b)d)", "abd", 4, "0-3 none none 0-3 1-2");
    }

    private static void onceOrNot() {
        Check.sentence("x? matches x once or not at all; GREEDY prefers once, SPARING not at all.");
        Check.finds("a?", "aa", 0, "0-1");
        Check.finds("a?", "b", 0, "0-0");
        Check.finds("a?", "", 0, "0-0");
        Check.finds("a?a", "a", 0, "0-1");
        Check.finds("a??", "aa", 0, "0-0");
        Check.finds("a??b", "ab", 0, "0-2");
        Check.finds("a?b", "aab", 0, "1-3");
        Check.finds("(a*)?", "b", 1, "0-0 0-0");
        Check.finds("(a*)??", "b", 1, "0-0 none");
        Check.finds("(|a)?", "a", 1, "0-0 0-0");
        Check.finds("(|a)?b", "ab", 1, "0-2 0-1");
        Check.wholes("a?", "aa", "110");
        Check.wholes("a??", "aa", "110");
    }

    private static void anyTimes() {
        Check.sentence("x* is: once x and then x*, or not at all, GREEDY in this order, SPARING in the other");
        Check.finds("a*", "aaa", 0, "0-3");
        Check.finds("a*", "b", 0, "0-0");
        Check.finds("a*", "", 0, "0-0");
        Check.finds("a*a", "aaa", 0, "0-3");
        Check.finds("a*?", "aaa", 0, "0-0");
        Check.finds("a*?$", "aaa", 0, "0-3");
        Check.finds("a*?b", "aaab", 0, "0-4");
        Check.finds("(a|ab|b)*c", "abbc", 1, "0-4 2-3");
        Check.finds("(a|aa)*?c", "aac", 1, "0-3 1-2");
        Check.finds("(aa|a)*?c", "aaac", 1, "0-4 2-3");
        Check.finds("(aa|a)*?(a|c)", "aac", 2, "0-1 none 0-1");
        Check.finds("a*", "a".repeat(30), 0, "0-30");
        Check.finds("a*?$", "a".repeat(30), 0, "0-30");
        Check.wholes("(ab)*", "ababa", "101010");
    }

    private static void onceAtLeast() {
        Check.sentence("x+ is x and then x* (SPARING if it is).");
        Check.finds("a+", "aaa", 0, "0-3");
        Check.finds("a+", "b", 0, "none");
        Check.finds("a+", "", 0, "none");
        Check.finds("a+?", "aaa", 0, "0-1");
        Check.finds("a+?$", "aaa", 0, "0-3");
        Check.finds("a+?b", "caab", 0, "1-4");
        Check.finds("(a|ab)+", "aba", 1, "0-1 0-1");
        Check.finds("(a|ab|b)+?c", "abc", 1, "0-3 1-2");
        Check.finds("(a|ab)+c", "ababc", 1, "0-5 2-4");
        Check.finds("((a+)+)+b", "aaab", 2, "0-4 0-3 0-3");
        Check.finds("((a+?)+?)+b", "aaab", 2, "0-4 2-3 2-3");
        Check.finds("(a+b?)+", "aabab", 1, "0-5 3-5");
        Check.finds("(a+?b?)+", "aab", 1, "0-3 1-3");
        Check.wholes("a+", "aab", "0110");
        Check.wholes("a+?", "aab", "0110");
    }

    private static void boundedTimes() {
        Check.sentence("x{m,n} is x m times, and then, n - m times one in another, (x and then the rest, or nothing), preferred like x?.");
        for (int most = 1; most <= 6; most++) {
            for (int least = 0; least <= most; least++) {
                String braces = "a{" + least + "," + most + "}";
                Check.finds(braces, "aaaaaaa", 0, "0-" + most);
                Check.finds(braces + "?", "aaaaaaa", 0, "0-" + least);
                Check.wholes(braces, "aaaaaaa", "0".repeat(least) + "1".repeat(most - least + 1) + "0".repeat(7 - most));
                Check.wholes(braces + "?", "aaaaaaa", "0".repeat(least) + "1".repeat(most - least + 1) + "0".repeat(7 - most));
            }
        }
        // The times that must be come first: their ways are compared before those of the others.
        Check.finds("(a|ab){1,2}", "aba", 1, "0-1 0-1");
        Check.finds("(a|ab|b){1,2}?c", "abc", 1, "0-3 1-2");
        Check.finds("a{2,3}?$", "aaaa", 0, "1-4");
        Check.finds("a{0,2}b", "aaab", 0, "1-4");
        Check.finds("(a?){2,4}", "aaa", 1, "0-3 3-3");
        Check.finds("(a?){2,4}?", "aaa", 1, "0-2 1-2");
        Check.finds("(a??){2,4}", "aaa", 1, "0-0 0-0");
        Check.finds("(a*){3}", "aa", 1, "0-2 2-2");
        Check.finds("(){0,2}", "a", 1, "0-0 0-0");
        Check.finds("(){0,2}?", "a", 1, "0-0 none");
        Check.finds("(a|aa){0,2}?c", "aac", 1, "0-3 1-2");
        Check.finds("(aa|a){0,2}?c", "aac", 1, "0-3 0-2");
        Check.finds("((a|ab)(c|bc)){1,2}", "abcac", 3, "0-5 3-5 3-4 4-5");
    }

    private static void groupsCatch() {
        Check.sentence("A group matches what its choice does, and CATCHES that stretch");
        Check.finds("x(a|bc)y", "xbcy", 1, "0-4 1-3");
        Check.finds("()", "a", 1, "0-0 0-0");
        Check.finds("a()", "a", 1, "0-1 1-1");
        Check.finds("($)", "ab", 1, "2-2 2-2");
        Check.finds("((((((a))))))", "xa", 6, "1-2 1-2 1-2 1-2 1-2 1-2 1-2");
        Check.finds("(.*)", LONGEST, 1, "0-30 0-30");
    }

    private static void groupsCatchLast() {
        Check.sentence("it has what it CAUGHT last on the way");
        Check.finds("(a)*", "aab", 1, "0-2 1-2");
        Check.finds("(a){2,3}", "aaaa", 1, "0-3 2-3");
        Check.finds("(a|(b))+", "ba", 2, "0-2 1-2 0-1");
        Check.finds("((a)|b)+", "ab", 2, "0-2 1-2 0-1");
        Check.finds("((a)(b)?)+", "aba", 3, "0-3 2-3 2-3 1-2");
        Check.finds("((a)|(b)|(c))*", "abd", 4, "0-2 1-2 0-1 1-2 none");
        Check.finds("(a?){3}", "a", 1, "0-1 1-1");
        Check.finds("((((((.))))))*", LONGEST, 6, "0-30 29-30 29-30 29-30 29-30 29-30 29-30");
    }

    private static void groupsWithNothing() {
        Check.sentence("or nothing.");
        Check.finds("(a)*", "b", 1, "0-0 none");
        Check.finds("(a)?b", "b", 1, "0-1 none");
        Check.finds("(a){0,3}b", "b", 1, "0-1 none");
        Check.finds("(a)|b", "b", 1, "0-1 none");
        Check.finds("(a)?(b)|c", "c", 2, "0-1 none none");
        // The way by the first row catches, but comes to no end.
        Check.finds("(a)(b)x|(a)bc", "abc", 3, "0-3 none none 0-1");
        Check.finds("((a)x)?ab", "ab", 2, "0-2 none none");
    }

    private static void matchIsTheMostPreferred() {
        Check.sentence("The MATCH at a place is the most preferred way of the whole pattern from there, if there is one.");
        Check.finds("(a|ab)(c|bcd)(d*)", "abcd", 3, "0-4 0-1 1-4 4-4");
        Check.finds("a*?|b", "aa", 0, "0-0");
        Check.finds("(a*)b|(a)", "aa", 2, "0-1 none 0-1");
        Check.finds("x", "", 0, "none");
        Check.finds("x", "abc", 0, "none");
    }

    private static void findTakesTheLeastPlace() {
        Check.sentence("FIND from place f: the least place from f on with a MATCH.");
        PatternSearch search = Check.ready("ab", "abcab");
        int[] places = {0, 3, 3, 3, Check.NONE, Check.NONE};
        for (int from = 0; from < places.length; from++) {
            Check.due("find(" + from + ")", search.find(from), places[from]);
        }
        Check.finds("b|abc", "xabc", 0, "1-4");
        Check.finds("c?", "abc", 0, "0-0");
        Check.findsFrom(2, "c?", "abc", 0, "2-3");
        Check.findsFrom(3, "c?", "abc", 0, "3-3");
        Check.findsFrom(30, "$", LONGEST, 0, "30-30");
        Check.findsFrom(29, "3", LONGEST, 0, "29-30");
        Check.findsFrom(30, "3", LONGEST, 0, "none");
    }

    private static void allMatches() {
        Check.sentence("ALL MATCHES: FIND from 0, then from where the last one ended");
        Check.counts("a", "banana", 3);
        Check.counts("aa", "aaaaa", 2);
        Check.counts("aba", "ababa", 1);
        Check.counts("ab", "ababab", 3);
        Check.counts("a*b", "aabab", 2);
        Check.counts("a|$", "aa", 3);
        Check.counts("a*", "aa", 2);
        Check.replaces("a*(b)?", "aab", 1, "b");
    }

    private static void allMatchesBehindEmptyOnes() {
        Check.sentence("one further if it was empty");
        Check.counts("", "abc", 4);
        Check.counts("a*", "aab", 3);
        Check.counts("a*", "baac", 4);
        Check.counts("a*?", "aa", 3);
        Check.counts("^|$", "ab", 2);
        Check.counts("(|a)", "aa", 3);
        // The match at 0 is empty, so that the sign there is passed over.
        Check.counts("|a", "a", 2);
        Check.replaces("(|a)", "ab", 3, "ab");
        Check.counts("a??", "a".repeat(30), 31);
    }

    private static void allMatchesToTheEnd() {
        Check.sentence("as long as there is one and the place is not above L.");
        Check.counts("", "", 1);
        Check.counts("a", "", 0);
        Check.counts("x", "abc", 0);
        Check.counts("$", "ab", 1);
        Check.counts("^", "ab", 1);
        Check.counts("b*", "ab", 3);
        Check.counts(".", "a".repeat(30), 30);
        Check.counts("", "a".repeat(30), 31);
        Check.counts(".*", "a".repeat(30), 2);
        Check.counts(".+", "a".repeat(30), 1);
        Check.replaces("^", "ab", 1, "ab");
    }
}
