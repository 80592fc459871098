/** The terms PATTERN, plain sign, GROUP and CAN STAND, sentence by sentence. */
public final class GrammarTest {
    private static final String NOT_PLAIN = ".[]^$|()*+?{}";
    private static final String NOT_AN_ITEM = "[]^-";

    public static void main(String[] args) {
        lengthOfAPattern();
        codesOfAPattern();
        choices();
        rows();
        pieces();
        repetitionSigns();
        bracesWithOneDigitEach();
        leastTimes();
        mostTimes();
        timesGivenOnce();
        oneSparingSign();
        atoms();
        classes();
        itemSigns();
        itemRanges();
        plainSigns();
        sixGroups();
        numbersOfGroups();
        seventhGroup();
        canStand();
        canStandAtAnyLength();
        Check.end();
    }

    private static void lengthOfAPattern() {
        Check.sentence("PATTERN. A text of at most 28 signs");
        PatternSearch search = Check.withPattern("a".repeat(27));
        Check.due("the 28th sign", search.pattern('z'), 28);
        Check.due("the 29th sign", search.pattern('z'), Check.REFUSED);
        Check.due("compile()", search.compile(), 0);
        Check.due("state(4)", search.state(4), 28);
        Check.putText(search, "a".repeat(27) + "zz");
        Check.due("find(0)", search.find(0), 0);
        Check.due("group(0, true)", search.group(0, true), 28);
    }

    private static void codesOfAPattern() {
        Check.sentence("each of code 32 .. 126");
        for (int sign = 0; sign <= 300; sign++) {
            int due = sign >= 32 && sign <= 126 ? 1 : Check.REFUSED;
            Check.due("pattern(" + sign + ")", new PatternSearch().pattern(sign), due);
        }
    }

    private static void choices() {
        Check.sentence("choice: one or more rows with '|' between.");
        Check.compiles("a", 0, 1);
        Check.compiles("a|b", 0, 4);
        Check.compiles("a|b|c|d|e|f|g|h|i|j|k|l|m|n", 0, 40);
        Check.compiles("(a|b)", 1, 6);
        Check.finds("a|b|c", "xc", 0, "1-2");
        Check.finds("a|b|c|d|e|f|g|h|i|j|k|l|m|n", "zn", 0, "1-2");
    }

    private static void rows() {
        Check.sentence("row: any number of pieces, maybe none.");
        Check.compiles("", 0, 0);
        Check.compiles("|", 0, 2);
        Check.compiles("a|", 0, 3);
        Check.compiles("|a", 0, 3);
        Check.compiles("a||b", 0, 6);
        Check.compiles("|".repeat(28), 0, 56);
        Check.compiles("()", 1, 2);
        Check.compiles("(|)", 1, 4);
        Check.compiles("(a|)", 1, 5);
        Check.compiles("(|a)", 1, 5);
        Check.compiles("abcdefghijklmnopqrstuvwxyz01", 0, 28);
        Check.compiles("a*b*c*d*e*f*g*h*i*j*k*l*m*n*", 0, 42);
    }

    private static void pieces() {
        Check.sentence("piece: an atom, maybe with a repetition behind.");
        String[] repetitions = {"*", "+", "?", "{2}", "{0,2}"};
        for (String repetition : repetitions) {
            Check.fault("a" + repetition, Check.NONE);
            Check.fault("(a)" + repetition, Check.NONE);
            Check.fault("[a]" + repetition, Check.NONE);
            Check.fault("." + repetition, Check.NONE);
            Check.fault("^" + repetition, Check.NONE);
            Check.fault("$" + repetition, Check.NONE);
            Check.fault(repetition, 0);
            Check.fault("|" + repetition, 1);
            Check.fault("(" + repetition, 1);
            Check.fault("a*?" + repetition, 3);
            Check.fault("a{2}?" + repetition, 5);
            Check.fault("a??" + repetition, 3);
        }
        Check.fault("a**", 2);
        Check.fault("a*+", 2);
        Check.fault("a?+", 2);
        Check.fault("a+{2}", 2);
        Check.fault("a{2}{2}", 4);
        Check.fault("a{2}*", 4);
    }

    private static void repetitionSigns() {
        Check.sentence("repetition: '*', '+', '?', '{m}' or '{m,n}'");
        for (char sign = 32; sign <= 126; sign++) {
            boolean stands = NOT_PLAIN.indexOf(sign) < 0 || ".^$|*+?".indexOf(sign) >= 0;
            boolean begins = "[({".indexOf(sign) >= 0;
            Check.fault("a" + sign, stands ? Check.NONE : begins ? 2 : 1);
        }
        Check.fault("a{", 2);
        Check.fault("a{1", 3);
        Check.fault("a{1,", 4);
        Check.fault("a{1,2", 5);
        Check.fault("a{1,2}", Check.NONE);
        for (char sign = 32; sign <= 126; sign++) {
            Check.fault("a{1" + sign, sign == ',' ? 4 : sign == '}' ? Check.NONE : 3);
            Check.fault("a{1,2" + sign, sign == '}' ? Check.NONE : 5);
        }
    }

    private static void bracesWithOneDigitEach() {
        Check.sentence("with one digit each");
        Check.fault("a{}", 2);
        Check.fault("a{,2}", 2);
        Check.fault("a{11}", 3);
        Check.fault("a{01}", 3);
        Check.fault("a{1,}", 4);
        Check.fault("a{1,11}", 5);
        Check.fault("a{1,01}", 4);
        Check.fault("a{1,2,3}", 5);
        Check.fault("a{1 }", 3);
        Check.fault("a{+1}", 2);
        Check.fault("a{-1}", 2);
    }

    private static void leastTimes() {
        Check.sentence("m from 0 to 6");
        for (char sign = 32; sign <= 126; sign++) {
            Check.fault("a{" + sign + ",6}", sign >= '0' && sign <= '6' ? Check.NONE : 2);
        }
        Check.compiles("a{0,6}", 0, 18);
        Check.compiles("a{6,6}", 0, 6);
    }

    private static void mostTimes() {
        Check.sentence("n from 1 to 6, m not above n");
        for (char sign = 32; sign <= 126; sign++) {
            for (char least = '0'; least <= '6'; least++) {
                boolean stands = sign >= '1' && sign <= '6' && sign >= least;
                Check.fault("a{" + least + "," + sign + "}", stands ? Check.NONE : 4);
            }
        }
    }

    private static void timesGivenOnce() {
        Check.sentence("('{m}' is '{m,m}', m not 0)");
        Check.fault("a{0}", 3);
        Check.fault("a{0", 3);
        for (int times = 1; times <= 6; times++) {
            Check.compiles("a{" + times + "}", 0, times);
            Check.compiles("a{" + times + "," + times + "}", 0, times);
            Check.finds("a{" + times + "}", "a".repeat(7), 0, "0-" + times);
            Check.finds("a{" + times + "}", "a".repeat(times - 1), 0, "none");
        }
        Check.fault("a{7}", 2);
    }

    private static void oneSparingSign() {
        Check.sentence("maybe one '?' behind it, which makes it SPARING; else it is GREEDY.");
        Check.fault("a???", 3);
        Check.fault("a*??", 3);
        Check.fault("a+??", 3);
        Check.fault("a{2}??", 5);
        Check.fault("a{1,2}??", 7);
        Check.fault("a*?b*?", Check.NONE);
        Check.finds("a?", "aa", 0, "0-1");
        Check.finds("a??", "aa", 0, "0-0");
        Check.finds("a*", "aa", 0, "0-2");
        Check.finds("a*?", "aa", 0, "0-0");
        Check.finds("a+", "aa", 0, "0-2");
        Check.finds("a+?", "aa", 0, "0-1");
        Check.finds("a{1,2}", "aa", 0, "0-2");
        Check.finds("a{1,2}?", "aa", 0, "0-1");
        Check.finds("a{2}?", "aaa", 0, "0-2");
    }

    private static void atoms() {
        Check.sentence("atom: a plain sign; '.'; '^'; '$'; a class; or '(' choice ')'.");
        for (char sign = 32; sign <= 126; sign++) {
            boolean stands = NOT_PLAIN.indexOf(sign) < 0 || ".^$|".indexOf(sign) >= 0;
            boolean begins = sign == '[' || sign == '(';
            int due = stands ? Check.NONE : begins ? 1 : 0;
            Check.fault(String.valueOf(sign), due);
            Check.fault("a|" + sign, due == Check.NONE ? due : due + 2);
        }
        Check.fault("(a|b)", Check.NONE);
        Check.fault("(a|b", 4);
        Check.fault("a)", 1);
        Check.fault(")", 0);
        Check.fault("())", 2);
        Check.fault("(()", 3);
        Check.fault("(]", 1);
        Check.fault("a]", 1);
        Check.fault("a}", 1);
    }

    private static void classes() {
        Check.sentence("class: '[', maybe '^', one or more items, ']'.");
        Check.fault("[", 1);
        Check.fault("[]", 1);
        Check.fault("[^", 2);
        Check.fault("[^]", 2);
        Check.fault("[^^]", 2);
        Check.fault("[a", 2);
        Check.fault("[a]", Check.NONE);
        Check.fault("[^a]", Check.NONE);
        Check.fault("[a^]", 2);
        Check.fault("[abcdefghijklmnopqrstuvwxyz]", Check.NONE);
        Check.fault("[^abcdefghijklmnopqrstuvwxy]", Check.NONE);
        Check.fault("[a-bc-de-fg-hi-jk-lm-no-pqr]", Check.NONE);
        Check.fault("[a]]", 3);
    }

    private static void itemSigns() {
        Check.sentence("item: a sign that is none of [ ] ^ -");
        for (char sign = 32; sign <= 126; sign++) {
            boolean item = NOT_AN_ITEM.indexOf(sign) < 0;
            Check.fault("[" + sign + "]", item ? Check.NONE : sign == '^' ? 2 : 1);
            Check.fault("[^" + sign + "]", item ? Check.NONE : 2);
            Check.fault("[a" + sign + "]", item ? Check.NONE : sign == '-' || sign == ']' ? 3 : 2);
            Check.fault("[a-b" + sign + "]", item ? Check.NONE : sign == ']' ? 5 : 4);
        }
    }

    private static void itemRanges() {
        Check.sentence("or two such signs with '-' between, the second one's code not below the first one's.");
        for (char first = 32; first <= 126; first++) {
            for (char last = 32; NOT_AN_ITEM.indexOf(first) < 0 && last <= 126; last++) {
                boolean stands = NOT_AN_ITEM.indexOf(last) < 0 && last >= first;
                PatternSearch search = Check.withPattern("[" + first + "-" + last + "]");
                Check.due("fault() of [" + first + "-" + last + "]", search.fault(), stands ? Check.NONE : 3);
            }
        }
        Check.fault("[-a]", 1);
        Check.fault("[^-a]", 2);
        Check.fault("[a-", 3);
        Check.fault("[a-c", 4);
        Check.fault("[a-c-e]", 4);
        Check.fault("[a-cc-e]", Check.NONE);
        Check.fault("[a-cx-e]", 6);
    }

    private static void plainSigns() {
        Check.sentence("A plain sign is one that is none of . [ ] ^ $ | ( ) * + ? { }.");
        for (char sign = 32; sign <= 126; sign++) {
            if (NOT_PLAIN.indexOf(sign) < 0) {
                Check.compiles("x" + sign, 0, 2);
                Check.finds("x" + sign, "xx" + sign, 0, sign == 'x' ? "0-2" : "1-3");
            } else {
                PatternSearch search = Check.withPattern("x" + sign);
                boolean done = search.compile() == 0;
                Check.putText(search, "x" + sign);
                Check.due("x" + sign + " matches itself", done && search.whole(0, 2) == 1, sign == '.');
            }
        }
    }

    private static void sixGroups() {
        Check.sentence("There are at most 6 '('");
        Check.compiles("()()()()()()", 6, 12);
        Check.compiles("((((((a))))))", 6, 13);
        Check.compiles("(a(b)|(c)(d))(e(f))", 6, 20);
        Check.compiles("()()()()()()[(]", 6, 13);
        Check.compiles("[((((((((]", 0, 1);
    }

    private static void numbersOfGroups() {
        Check.sentence("the k-th one from the left, from 1, begins GROUP k");
        Check.finds("(a)(b)(c)(d)(e)(f)", "abcdef", 6, "0-6 0-1 1-2 2-3 3-4 4-5 5-6");
        Check.finds("(a(b(c(d(e(f))))))", "abcdef", 6, "0-6 0-6 1-6 2-6 3-6 4-6 5-6");
        Check.finds("((((((a)b)c)d)e)f)", "abcdef", 6, "0-6 0-6 0-5 0-4 0-3 0-2 0-1");
        Check.finds("(a(b)c)(d(e)f)", "abcdef", 4, "0-6 0-3 1-2 3-6 4-5");
        Check.finds("[(]([(])(a)", "((a", 2, "0-3 1-2 2-3");
        Check.finds("(a)|(b)|(c)", "c", 3, "0-1 none none 0-1");
    }

    private static void seventhGroup() {
        Check.sentence("and a seventh can't stand.");
        Check.fault("()()()()()()(", 12);
        Check.fault("()()()()()()()", 12);
        Check.fault("((((((", 6);
        Check.fault("(((((((", 6);
        Check.fault("((((((a))))))(b)", 13);
        Check.fault("(a|b)(c|d)(e)(f)(g)(h)|(i)", 23);
        Check.fault("[((((((((]()()()()()()(", 22);
        Check.fault("(".repeat(28), 6);
        Check.notReady("()()()()()()()", Check.BAD);
    }

    private static void canStand() {
        Check.sentence("A sign CAN STAND at a place if some pattern by these rules (of any length) begins with the signs up to it.");
        Check.fault("(a{3,", 5);
        Check.fault("(a{3,)", 5);
        Check.fault("([~-", 4);
        Check.fault("([~-}", 4);
        Check.fault("([~-~", 5);
        Check.fault("(a*)*(^$)+", Check.NONE);
        Check.fault("(((a{6}){6}){6}){6}", Check.NONE);
        Check.fault("a)*(", 1);
    }

    private static void canStandAtAnyLength() {
        Check.sentence("(of any length)");
        Check.fault("a".repeat(22) + "((((((", 28);
        Check.fault("a".repeat(27) + "(", 28);
        Check.fault("a".repeat(27) + "[", 28);
        Check.fault("a".repeat(27) + "{", 28);
        Check.fault("a".repeat(26) + "[^", 28);
        Check.fault("a".repeat(25) + "{0,", 28);
        Check.fault("a".repeat(27) + ")", 27);
        Check.fault("a".repeat(28), Check.NONE);
    }
}
