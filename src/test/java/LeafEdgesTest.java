/**
 * The edges of the kinds 0 to 13, which have no parts: at which places each succeeds, begun at some
 * place of some subject, in order; so also that it succeeds no more when it is gone back into.
 */
public final class LeafEdgesTest {
    private static final int BIG = Integer.MAX_VALUE;
    private static final String ALL_A = "a".repeat(64);

    public static void main(String[] args) {
        wordAtTheEnds();
        wordEmpty();
        wordThatDiffers();
        anyAtTheEnds();
        anySets();
        notAtTheEnds();
        notSets();
        spanAtLeastOne();
        spanTheLongest();
        breakBeforeTheFirst();
        breakIfThereIsOne();
        signsAtBothEndsOfTheirRange();
        whatStoodBehindATextIsGone();
        lenUpToTheEnd();
        fromItsPlaceAlone();
        beforeItsPlaceAlone();
        tabBetweenHereAndTheEnd();
        backBetweenHereAndTheEnd();
        veryLargeNumbers();
        rest();
        arb();
        balancedWithoutBrackets();
        balancedBrackets();
        balancedNoMoreClosing();
        fail();
        Check.end();
    }

    private static void texts(String want, String text, int c, int kind, String set) {
        Bench.placesDue(want, text, c, kind, set, 0);
    }

    private static void numbers(String want, String text, int c, int kind, int a) {
        Bench.placesDue(want, text, c, kind, "", a);
    }

    private static void wordAtTheEnds() {
        texts("3", "abc", 0, Bench.WORD, "abc");
        texts("", "abc", 0, Bench.WORD, "abcd");
        texts("3", "abc", 2, Bench.WORD, "c");
        texts("", "abc", 2, Bench.WORD, "cc");
        texts("", "abc", 3, Bench.WORD, "c");
        texts("", "", 0, Bench.WORD, "a");
        texts("64", ALL_A, 0, Bench.WORD, ALL_A);
        texts("", ALL_A, 1, Bench.WORD, ALL_A);
        texts("64", ALL_A, 1, Bench.WORD, "a".repeat(63));
        texts("", "a".repeat(63), 0, Bench.WORD, ALL_A);
        texts("64", ALL_A, 63, Bench.WORD, "a");
        texts("", ALL_A, 64, Bench.WORD, "a");
    }

    private static void wordEmpty() {
        texts("0", "", 0, Bench.WORD, "");
        texts("0", "abc", 0, Bench.WORD, "");
        texts("1", "abc", 1, Bench.WORD, "");
        texts("3", "abc", 3, Bench.WORD, "");
        texts("64", ALL_A, 64, Bench.WORD, "");
    }

    private static void wordThatDiffers() {
        texts("", "abcd", 0, Bench.WORD, "xbcd");
        texts("", "abcd", 0, Bench.WORD, "abcx");
        texts("", "abcd", 0, Bench.WORD, "bcd");
        texts("", "abcd", 1, Bench.WORD, "abc");
        texts("2", "aaaa", 1, Bench.WORD, "a");
    }

    private static void anyAtTheEnds() {
        texts("1", "abc", 0, Bench.ANY, "abc");
        texts("3", "abc", 2, Bench.ANY, "abc");
        texts("", "abc", 3, Bench.ANY, "abc");
        texts("", "", 0, Bench.ANY, "abc");
        texts("64", ALL_A, 63, Bench.ANY, "a");
        texts("", ALL_A, 64, Bench.ANY, "a");
    }

    private static void anySets() {
        texts("", "abc", 0, Bench.ANY, "");
        texts("", "", 0, Bench.ANY, "");
        texts("", "abc", 0, Bench.ANY, "bc");
        texts("1", "abc", 0, Bench.ANY, "x".repeat(63) + "a");
        texts("1", "abc", 0, Bench.ANY, "a" + "x".repeat(63));
        texts("1", "abc", 0, Bench.ANY, "aaa");
    }

    private static void notAtTheEnds() {
        texts("1", "abc", 0, Bench.NOT, "x");
        texts("3", "abc", 2, Bench.NOT, "x");
        texts("", "abc", 3, Bench.NOT, "x");
        texts("", "", 0, Bench.NOT, "x");
        texts("64", ALL_A, 63, Bench.NOT, "x");
        texts("", ALL_A, 64, Bench.NOT, "x");
    }

    private static void notSets() {
        texts("1", "abc", 0, Bench.NOT, "");
        texts("3", "abc", 2, Bench.NOT, "");
        texts("", "abc", 3, Bench.NOT, "");
        texts("", "", 0, Bench.NOT, "");
        texts("", "abc", 0, Bench.NOT, "x".repeat(63) + "a");
        texts("", "abc", 0, Bench.NOT, "a" + "x".repeat(63));
        texts("1", "abc", 0, Bench.NOT, "bc");
    }

    private static void spanAtLeastOne() {
        texts("1", "abc", 0, Bench.SPAN, "a");
        texts("3", "abc", 2, Bench.SPAN, "c");
        texts("", "abc", 0, Bench.SPAN, "bc");
        texts("", "abc", 3, Bench.SPAN, "abc");
        texts("", "", 0, Bench.SPAN, "abc");
        texts("", "abc", 0, Bench.SPAN, "");
        texts("", "abc", 3, Bench.SPAN, "");
        texts("", "", 0, Bench.SPAN, "");
    }

    private static void spanTheLongest() {
        texts("2", "aabaa", 0, Bench.SPAN, "a");
        texts("2", "aabaa", 1, Bench.SPAN, "a");
        texts("5", "aabaa", 0, Bench.SPAN, "ab");
        texts("5", "aabaa", 3, Bench.SPAN, "a");
        texts("64", ALL_A, 0, Bench.SPAN, "a");
        texts("64", ALL_A, 63, Bench.SPAN, "a");
        texts("", ALL_A, 64, Bench.SPAN, "a");
        texts("63", "a".repeat(63) + "b", 0, Bench.SPAN, "a");
    }

    private static void breakBeforeTheFirst() {
        texts("0", "abc", 0, Bench.BREAK, "a");
        texts("1", "abcb", 0, Bench.BREAK, "b");
        texts("1", "abcb", 1, Bench.BREAK, "b");
        texts("3", "abcb", 2, Bench.BREAK, "b");
        texts("1", "abcb", 0, Bench.BREAK, "cb");
        texts("2", "abc", 0, Bench.BREAK, "c");
        texts("63", "a".repeat(63) + "b", 0, Bench.BREAK, "b");
        texts("63", "a".repeat(63) + "b", 63, Bench.BREAK, "b");
    }

    private static void breakIfThereIsOne() {
        texts("", "abc", 0, Bench.BREAK, "x");
        texts("", "abc", 1, Bench.BREAK, "a");
        texts("", "abc", 3, Bench.BREAK, "abc");
        texts("", "", 0, Bench.BREAK, "abc");
        texts("", "abc", 0, Bench.BREAK, "");
        texts("", "", 0, Bench.BREAK, "");
        texts("", ALL_A, 64, Bench.BREAK, "a");
        texts("", ALL_A, 0, Bench.BREAK, "b");
    }

    private static void signsAtBothEndsOfTheirRange() {
        String ends = "\u0000\u00ff\u0000";
        texts("3", ends, 0, Bench.WORD, ends);
        texts("", ends, 3, Bench.WORD, "\u0000");
        texts("1", ends, 0, Bench.ANY, "\u0000");
        texts("2", ends, 1, Bench.ANY, "\u00ff");
        texts("", ends, 3, Bench.ANY, "\u0000\u00ff");
        texts("", ends, 0, Bench.NOT, "\u0000");
        texts("2", ends, 1, Bench.NOT, "\u0000");
        texts("1", ends, 0, Bench.SPAN, "\u0000");
        texts("3", ends, 0, Bench.SPAN, "\u00ff\u0000");
        texts("1", ends, 0, Bench.BREAK, "\u00ff");
        texts("", "ab", 0, Bench.BREAK, "\u0000");
        texts("", "", 0, Bench.NOT, "\u00ff");
    }

    /** The variable, and the subject of the match before, were longer. */
    private static void whatStoodBehindATextIsGone() {
        for (int kind = 0; kind <= 4; kind++) {
            Bench bench = Bench.with("aaaaab");
            int asked = bench.leaf(kind, kind == Bench.NOT ? "x" : kind == Bench.BREAK ? "b" : "aaa");
            int behind = bench.row(bench.node(Bench.TAB, 2), asked);
            Check.due("kind " + kind + " of the longer text", 1, bench.mill.match(0, behind, true));
            bench.let(0, "aa");
            Check.due("kind " + kind + " behind the shorter", 0, bench.mill.match(0, behind, true));
        }
        Bench brackets = Bench.with("a()a()");
        int behind = brackets.row(brackets.node(Bench.TAB, 3), brackets.node(Bench.BALANCED));
        Check.due("BALANCED of the longer text", 1, brackets.mill.match(0, behind, true));
        brackets.let(0, "a()");
        Check.due("BALANCED behind the shorter", 0, brackets.mill.match(0, behind, true));
    }

    private static void lenUpToTheEnd() {
        numbers("0", "abc", 0, Bench.LEN, 0);
        numbers("3", "abc", 3, Bench.LEN, 0);
        numbers("3", "abc", 0, Bench.LEN, 3);
        numbers("", "abc", 0, Bench.LEN, 4);
        numbers("3", "abc", 1, Bench.LEN, 2);
        numbers("", "abc", 1, Bench.LEN, 3);
        numbers("", "abc", 3, Bench.LEN, 1);
        numbers("0", "", 0, Bench.LEN, 0);
        numbers("", "", 0, Bench.LEN, 1);
        numbers("64", ALL_A, 0, Bench.LEN, 64);
        numbers("", ALL_A, 0, Bench.LEN, 65);
        numbers("64", ALL_A, 64, Bench.LEN, 0);
    }

    private static void fromItsPlaceAlone() {
        numbers("0", "abc", 0, Bench.FROM, 0);
        numbers("", "abc", 1, Bench.FROM, 0);
        numbers("", "abc", 0, Bench.FROM, 1);
        numbers("3", "abc", 3, Bench.FROM, 3);
        numbers("", "abc", 3, Bench.FROM, 4);
        numbers("", "abc", 3, Bench.FROM, 2);
        numbers("0", "", 0, Bench.FROM, 0);
        numbers("", "", 0, Bench.FROM, 1);
        numbers("64", ALL_A, 64, Bench.FROM, 64);
        numbers("", ALL_A, 64, Bench.FROM, 65);
    }

    private static void beforeItsPlaceAlone() {
        numbers("3", "abc", 3, Bench.BEFORE, 0);
        numbers("", "abc", 2, Bench.BEFORE, 0);
        numbers("2", "abc", 2, Bench.BEFORE, 1);
        numbers("", "abc", 3, Bench.BEFORE, 1);
        numbers("0", "abc", 0, Bench.BEFORE, 3);
        numbers("", "abc", 0, Bench.BEFORE, 2);
        numbers("", "abc", 0, Bench.BEFORE, 4);
        numbers("0", "", 0, Bench.BEFORE, 0);
        numbers("", "", 0, Bench.BEFORE, 1);
        numbers("0", ALL_A, 0, Bench.BEFORE, 64);
        numbers("", ALL_A, 0, Bench.BEFORE, 65);
    }

    private static void tabBetweenHereAndTheEnd() {
        numbers("0", "abc", 0, Bench.TAB, 0);
        numbers("", "abc", 1, Bench.TAB, 0);
        numbers("1", "abc", 1, Bench.TAB, 1);
        numbers("2", "abc", 1, Bench.TAB, 2);
        numbers("3", "abc", 1, Bench.TAB, 3);
        numbers("", "abc", 1, Bench.TAB, 4);
        numbers("3", "abc", 3, Bench.TAB, 3);
        numbers("", "abc", 3, Bench.TAB, 2);
        numbers("0", "", 0, Bench.TAB, 0);
        numbers("", "", 0, Bench.TAB, 1);
        numbers("64", ALL_A, 0, Bench.TAB, 64);
        numbers("", ALL_A, 0, Bench.TAB, 65);
    }

    private static void backBetweenHereAndTheEnd() {
        numbers("3", "abc", 0, Bench.BACK, 0);
        numbers("3", "abc", 3, Bench.BACK, 0);
        numbers("", "abc", 3, Bench.BACK, 1);
        numbers("2", "abc", 2, Bench.BACK, 1);
        numbers("2", "abc", 0, Bench.BACK, 1);
        numbers("0", "abc", 0, Bench.BACK, 3);
        numbers("", "abc", 1, Bench.BACK, 3);
        numbers("", "abc", 0, Bench.BACK, 4);
        numbers("0", "", 0, Bench.BACK, 0);
        numbers("", "", 0, Bench.BACK, 1);
        numbers("0", ALL_A, 0, Bench.BACK, 64);
        numbers("", ALL_A, 0, Bench.BACK, 65);
    }

    private static void veryLargeNumbers() {
        for (int a : new int[] {BIG, BIG - 1, BIG - 2, BIG - 3, BIG - 64, 1 << 30, 65536, 256, 128}) {
            for (int kind = 5; kind <= 9; kind++) {
                for (int c : new int[] {0, 1, 3}) {
                    numbers("", "abc", c, kind, a);
                }
                numbers("", "", 0, kind, a);
                numbers("", ALL_A, 64, kind, a);
            }
        }
    }

    private static void rest() {
        numbers("3", "abc", 0, Bench.REST, 0);
        numbers("3", "abc", 2, Bench.REST, 0);
        numbers("3", "abc", 3, Bench.REST, 0);
        numbers("0", "", 0, Bench.REST, 0);
        numbers("64", ALL_A, 0, Bench.REST, 0);
        numbers("64", ALL_A, 64, Bench.REST, 0);
    }

    private static void arb() {
        numbers("0 1 2 3", "abc", 0, Bench.ARB, 0);
        numbers("2 3", "abc", 2, Bench.ARB, 0);
        numbers("3", "abc", 3, Bench.ARB, 0);
        numbers("0", "", 0, Bench.ARB, 0);
        numbers("62 63 64", ALL_A, 62, Bench.ARB, 0);
        numbers("64", ALL_A, 64, Bench.ARB, 0);
        StringBuilder all = new StringBuilder("0");
        for (int place = 1; place <= 64; place++) {
            all.append(' ').append(place);
        }
        numbers(all.toString(), ALL_A, 0, Bench.ARB, 0);
    }

    private static void balancedWithoutBrackets() {
        numbers("1 2 3", "abc", 0, Bench.BALANCED, 0);
        numbers("3", "abc", 2, Bench.BALANCED, 0);
        numbers("", "abc", 3, Bench.BALANCED, 0);
        numbers("", "", 0, Bench.BALANCED, 0);
        numbers("64", ALL_A, 63, Bench.BALANCED, 0);
        numbers("", ALL_A, 64, Bench.BALANCED, 0);
        numbers("1 2 3 4", "[]{}", 0, Bench.BALANCED, 0);
        numbers("1 2", "'*", 0, Bench.BALANCED, 0);
    }

    private static void balancedBrackets() {
        numbers("2", "()", 0, Bench.BALANCED, 0);
        numbers("2 4 6", "()()()", 0, Bench.BALANCED, 0);
        numbers("4", "(())", 0, Bench.BALANCED, 0);
        numbers("3", "(())", 1, Bench.BALANCED, 0);
        numbers("1 5 6", "a(())b", 0, Bench.BALANCED, 0);
        numbers("64", "(".repeat(32) + ")".repeat(32), 0, Bench.BALANCED, 0);
        numbers("34", "(".repeat(32) + ")".repeat(32), 30, Bench.BALANCED, 0);
        numbers("64", "(" + "a".repeat(62) + ")", 0, Bench.BALANCED, 0);
        numbers("", "(", 0, Bench.BALANCED, 0);
        numbers("", "((a)", 0, Bench.BALANCED, 0);
        numbers("1 2", "ab((c)", 0, Bench.BALANCED, 0);
        numbers("", "(".repeat(64), 0, Bench.BALANCED, 0);
    }

    private static void balancedNoMoreClosing() {
        numbers("", ")", 0, Bench.BALANCED, 0);
        numbers("", ")(", 0, Bench.BALANCED, 0);
        numbers("", ")a(", 0, Bench.BALANCED, 0);
        numbers("1", "a)b", 0, Bench.BALANCED, 0);
        numbers("1", "a)(b", 0, Bench.BALANCED, 0);
        numbers("2", "())(", 0, Bench.BALANCED, 0);
        numbers("", "a)b", 1, Bench.BALANCED, 0);
        numbers("3", "a)b", 2, Bench.BALANCED, 0);
        numbers("2 4", "()())()", 0, Bench.BALANCED, 0);
        numbers("", "(a)", 2, Bench.BALANCED, 0);
    }

    private static void fail() {
        numbers("", "abc", 0, Bench.FAIL, 0);
        numbers("", "abc", 3, Bench.FAIL, 0);
        numbers("", "", 0, Bench.FAIL, 0);
        numbers("", ALL_A, 64, Bench.FAIL, 0);
    }
}
