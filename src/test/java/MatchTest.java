/** Promises 9 and 10: match and latest, kind by kind. */
public final class MatchTest {
    private static final int NONE = PatternMill.NONE;
    private static final int BIG = Integer.MAX_VALUE;

    public static void main(String[] args) {
        words();
        sets();
        countedPlaces();
        arb();
        balanced();
        fenceAndAbort();
        many();
        thenAndOr();
        keep();
        keepsInOrder();
        now();
        placeAndValue();
        later();
        startsAndSteps();
        theLastStep();
        subjectStays();
        latest();
        refused();
        deepChains();
        Check.end();
    }

    private static void words() {
        Bench.placesDue("3", "abcab", 0, Bench.WORD, "abc", 0);
        Bench.placesDue("5", "abcab", 3, Bench.WORD, "ab", 0);
        Bench.placesDue("", "abcab", 3, Bench.WORD, "abc", 0);
        Bench.placesDue("", "abcab", 1, Bench.WORD, "ab", 0);
        Bench.placesDue("2", "abcab", 2, Bench.WORD, "", 0);
        Bench.placesDue("0", "", 0, Bench.WORD, "", 0);
        Bench.placesDue("", "", 0, Bench.WORD, "a", 0);
    }

    private static void sets() {
        Bench.placesDue("1", "abc", 0, Bench.ANY, "xa", 0);
        Bench.placesDue("", "abc", 1, Bench.ANY, "xa", 0);
        Bench.placesDue("", "abc", 3, Bench.ANY, "abc", 0);
        Bench.placesDue("", "abc", 0, Bench.ANY, "", 0);
        Bench.placesDue("2", "abc", 1, Bench.NOT, "xa", 0);
        Bench.placesDue("", "abc", 0, Bench.NOT, "xa", 0);
        Bench.placesDue("", "abc", 3, Bench.NOT, "xa", 0);
        Bench.placesDue("1", "abc", 0, Bench.NOT, "", 0);
        Bench.placesDue("4", "babac", 0, Bench.SPAN, "ab", 0);
        Bench.placesDue("5", "babac", 2, Bench.SPAN, "abc", 0);
        Bench.placesDue("", "babac", 4, Bench.SPAN, "ab", 0);
        Bench.placesDue("", "babac", 5, Bench.SPAN, "ab", 0);
        Bench.placesDue("", "babac", 0, Bench.SPAN, "", 0);
        Bench.placesDue("4", "babac", 0, Bench.BREAK, "xc", 0);
        Bench.placesDue("1", "babac", 1, Bench.BREAK, "ca", 0);
        Bench.placesDue("", "babac", 0, Bench.BREAK, "x", 0);
        Bench.placesDue("", "babac", 5, Bench.BREAK, "c", 0);
        Bench.placesDue("", "babac", 0, Bench.BREAK, "", 0);
        Bench.placesDue("1", "\u0000\u00ff", 0, Bench.SPAN, "\u0000", 0);
        Bench.placesDue("2", "\u0000\u00ff", 0, Bench.SPAN, "\u00ff\u0000", 0);
    }

    private static void countedPlaces() {
        Bench.placesDue("2", "abcd", 2, Bench.LEN, "", 0);
        Bench.placesDue("4", "abcd", 2, Bench.LEN, "", 2);
        Bench.placesDue("", "abcd", 2, Bench.LEN, "", 3);
        Bench.placesDue("", "abcd", 2, Bench.LEN, "", BIG);
        Bench.placesDue("2", "abcd", 2, Bench.FROM, "", 2);
        Bench.placesDue("", "abcd", 2, Bench.FROM, "", 1);
        Bench.placesDue("", "abcd", 2, Bench.FROM, "", BIG);
        Bench.placesDue("1", "abcd", 1, Bench.BEFORE, "", 3);
        Bench.placesDue("4", "abcd", 4, Bench.BEFORE, "", 0);
        Bench.placesDue("", "abcd", 1, Bench.BEFORE, "", 1);
        Bench.placesDue("", "abcd", 0, Bench.BEFORE, "", BIG);
        Bench.placesDue("3", "abcd", 1, Bench.TAB, "", 3);
        Bench.placesDue("1", "abcd", 1, Bench.TAB, "", 1);
        Bench.placesDue("4", "abcd", 1, Bench.TAB, "", 4);
        Bench.placesDue("", "abcd", 1, Bench.TAB, "", 0);
        Bench.placesDue("", "abcd", 1, Bench.TAB, "", 5);
        Bench.placesDue("", "abcd", 1, Bench.TAB, "", BIG);
        Bench.placesDue("3", "abcd", 1, Bench.BACK, "", 1);
        Bench.placesDue("4", "abcd", 1, Bench.BACK, "", 0);
        Bench.placesDue("1", "abcd", 1, Bench.BACK, "", 3);
        Bench.placesDue("", "abcd", 1, Bench.BACK, "", 4);
        Bench.placesDue("", "abcd", 0, Bench.BACK, "", 5);
        Bench.placesDue("", "abcd", 0, Bench.BACK, "", BIG);
        Bench bench = Bench.with("abcd");
        int far = bench.row(bench.node(Bench.LEN, 1), bench.node(Bench.LEN, BIG));
        Check.due("LEN beyond all numbers", "0 in 3", bench.match(far, true));
        Bench.placesDue("4", "abcd", 1, Bench.REST, "", 0);
        Bench.placesDue("4", "abcd", 4, Bench.REST, "", 0);
        Bench.placesDue("", "abcd", 0, Bench.FAIL, "", 0);
    }

    private static void arb() {
        Bench.placesDue("0 1 2 3", "abc", 0, Bench.ARB, "", 0);
        Bench.placesDue("2 3", "abc", 2, Bench.ARB, "", 0);
        Bench.placesDue("3", "abc", 3, Bench.ARB, "", 0);
        Bench.placesDue("0", "", 0, Bench.ARB, "", 0);
    }

    private static void balanced() {
        Bench.placesDue("1 4 5 9", "a(b)c(())", 0, Bench.BALANCED, "", 0);
        Bench.placesDue("3 5", "(b)()", 0, Bench.BALANCED, "", 0);
        Bench.placesDue("2", "(b)c", 1, Bench.BALANCED, "", 0);
        Bench.placesDue("", "b)c", 1, Bench.BALANCED, "", 0);
        Bench.placesDue("1", "b)(c", 0, Bench.BALANCED, "", 0);
        Bench.placesDue("", "((b)", 0, Bench.BALANCED, "", 0);
        Bench.placesDue("4", "((b)", 1, Bench.BALANCED, "", 0);
        Bench.placesDue("", "ab", 2, Bench.BALANCED, "", 0);
        Bench.placesDue("", "", 0, Bench.BALANCED, "", 0);
        Bench.placesDue("2 4", "()()", 0, Bench.BALANCED, "", 0);
    }

    private static void fenceAndAbort() {
        Bench bench = Bench.with("aab");
        int fence = bench.node(Bench.FENCE);
        int b = bench.word("b");
        Check.due("FENCE", "1 0-0 in 1", bench.match(fence, false));
        Check.due("nothing is gone back into", "1 2-3 in 7", bench.match(bench.row(b, fence), false));
        Check.due("FENCE stops the later starts", "2 in 3", bench.match(bench.row(fence, b), false));
        Check.due("FENCE anchored", "2 in 3", bench.match(bench.row(fence, b), true));
        Check.due("the other way is closed", "2 in 4", bench.match(bench.node(Bench.OR, bench.row(fence, b), fence), false));
        Check.due("ABORT", "2 in 1", bench.match(bench.node(Bench.ABORT), false));
        Check.due("ABORT behind", "2 in 7", bench.match(bench.row(b, bench.node(Bench.ABORT)), false));
        Check.due("ABORT not reached", "0 in 2", bench.match(bench.row(b, bench.node(Bench.ABORT)), true));
        Check.due("ABORT instead", "2 in 3", bench.match(bench.node(Bench.OR, b, bench.node(Bench.ABORT)), false));
    }

    private static void many() {
        Bench bench = Bench.with("aaab");
        int a = bench.word("a");
        int many = bench.node(Bench.MANY, a);
        int end = bench.word("b");
        Check.due("MANY, none first", "1 0-0 in 1", bench.match(many, true));
        // THEN MANY b, then three times a MANY b
        Check.due("MANY, three", "1 0-4 in 12", bench.match(bench.row(many, end), true));
        // at 0 .. 4 THEN MANY b with a MANY b for each a, and at last the a that fails
        Check.due("MANY, never", "0 in 38", bench.match(bench.row(many, bench.word("c")), false));
        int arb = bench.node(Bench.MANY, bench.node(Bench.LEN, 2));
        Check.due("MANY of twos", "1 0-4 in 9", bench.match(bench.row(arb, bench.node(Bench.BEFORE, 0)), true));
        Check.due("MANY of twos, odd", "0 in 10", bench.match(bench.row(arb, bench.node(Bench.FROM, 3)), true));
        int none = bench.node(Bench.MANY, bench.word(""));
        Check.due("MANY of nothing goes on", "3 in 3000", bench.match(bench.row(none, end), true));
        int span = bench.node(Bench.MANY, bench.node(Bench.ARB));
        Check.due("a is gone back into", "3 in 3000", bench.match(bench.row(span, end), true));
    }

    private static void thenAndOr() {
        Bench bench = Bench.with("abcabd");
        int arb = bench.node(Bench.ARB);
        int ab = bench.word("ab");
        int d = bench.word("d");
        // THEN ab d, twice THEN ab, THEN ab d
        Check.due("THEN", "1 3-6 in 10", bench.match(bench.row(ab, d), false));
        Check.due("a is gone back into", "1 0-6 in 8", bench.match(bench.row(arb, d), true));
        int or = bench.node(Bench.OR, bench.word("a"), ab);
        Check.due("OR, a first", "1 0-1 in 2", bench.match(or, true));
        // THEN OR a d ab d, twice THEN OR a ab, and the first again
        Check.due("OR, b when a does not do", "1 3-6 in 20", bench.match(bench.row(or, d), false));
        Check.due("OR, both fail", "0 in 3", bench.match(bench.node(Bench.OR, d, d), true));
        int orArb = bench.node(Bench.OR, bench.node(Bench.LEN, 9), arb);
        Check.due("OR goes back into b", "1 0-6 in 10", bench.match(bench.row(orArb, d), true));
    }

    private static void keep() {
        Bench bench = Bench.with("key=val;");
        bench.let(1, "old");
        bench.let(2, "old");
        int key = bench.node(Bench.KEEP, bench.leaf(Bench.BREAK, "="), 1);
        int value = bench.node(Bench.KEEP, bench.leaf(Bench.BREAK, ";"), 2);
        int is = bench.word("=");
        bench.match(bench.row(key, is, value, bench.word(".")), false);
        Check.due("KEEP in a match that fails", "old old", bench.text(1) + " " + bench.text(2));
        bench.match(bench.row(key, is, value), true);
        Check.due("KEEP", "key val", bench.text(1) + " " + bench.text(2));
        bench.let(1, "old");
        int gone = bench.node(Bench.THEN, key, bench.node(Bench.FAIL));
        bench.match(bench.node(Bench.OR, gone, value), true);
        Check.due("KEEP that was gone back over", "old key=val", bench.text(1) + " " + bench.text(2));
        int arb = bench.node(Bench.KEEP, bench.node(Bench.ARB), 3);
        bench.match(bench.row(arb, bench.word("val")), true);
        Check.due("KEEP of what is gone back into", "key=", bench.text(3));
        bench.match(bench.row(bench.word("="), arb, bench.word("l")), false);
        Check.due("KEEP from its own place on", "va", bench.text(3));
        bench.match(arb, true);
        Check.due("KEEP of nothing", "", bench.text(3));
        bench.let(4, "y");
        int early = bench.node(Bench.KEEP, is, 4);
        bench.match(bench.row(bench.word("ke"), bench.node(Bench.VALUE, 4), early), true);
        Check.due("KEEP only at the end", "=", bench.text(4));
    }

    private static void keepsInOrder() {
        Bench bench = Bench.with("abc");
        int one = bench.node(Bench.LEN, 1);
        int inner = bench.node(Bench.KEEP, one, 1);
        int outer = bench.node(Bench.KEEP, bench.row(inner, one), 1);
        bench.match(outer, true);
        Check.due("the outer one succeeds last", "ab", bench.text(1));
        bench.match(bench.row(outer, inner), true);
        Check.due("the one behind succeeds last", "c", bench.text(1));
        bench.match(bench.row(bench.node(Bench.MANY, inner), bench.node(Bench.BEFORE, 0)), true);
        Check.due("the last of many", "c", bench.text(1));
        bench.match(bench.node(Bench.KEEP, bench.row(bench.node(Bench.MANY, inner), bench.node(Bench.FROM, 2)), 2), true);
        Check.due("the last of two, and both", "b ab", bench.text(1) + " " + bench.text(2));
        bench.let(0, "xyz");
        bench.match(bench.node(Bench.KEEP, bench.node(Bench.TAB, 2), 0), true);
        Check.due("the subject's own variable", "xy", bench.text(0));
    }

    private static void now() {
        Bench bench = Bench.with("abcd");
        int arb = bench.node(Bench.NOW, bench.node(Bench.ARB), 1);
        bench.match(bench.row(arb, bench.word("c")), true);
        Check.due("NOW", "ab", bench.text(1));
        Check.due("NOW in a match that fails", "0 in 8", bench.match(bench.row(arb, bench.node(Bench.FAIL)), true));
        Check.due("stays so", "abcd", bench.text(1));
        bench.match(bench.row(arb, bench.node(Bench.ABORT)), false);
        Check.due("NOW before ABORT", "", bench.text(1));
        bench.let(1, "same");
        bench.match(bench.node(Bench.NOW, bench.node(Bench.FAIL), 1), false);
        Check.due("NOW that fails", "same", bench.text(1));
        bench.let(0, "abab");
        int two = bench.node(Bench.NOW, bench.node(Bench.LEN, 2), 2);
        Check.due("VALUE of NOW", "1 0-4 in 4", bench.match(bench.row(two, bench.node(Bench.VALUE, 2)), false));
        int keepThenNow = bench.row(bench.node(Bench.KEEP, bench.node(Bench.LEN, 1), 3), bench.node(Bench.NOW, bench.node(Bench.LEN, 2), 3));
        bench.match(keepThenNow, true);
        Check.due("KEEP is later than NOW", "a", bench.text(3));
        int inSame = bench.node(Bench.NOW, bench.row(two, bench.node(Bench.LEN, 1)), 2);
        bench.match(inSame, true);
        Check.due("the outer NOW is last", "aba", bench.text(2));
    }

    private static void placeAndValue() {
        Bench bench = Bench.with("x".repeat(64));
        int place = bench.node(Bench.PLACE, 5);
        for (int c : new int[] {0, 1, 9, 10, 11, 20, 63, 64}) {
            int all = bench.row(bench.node(Bench.TAB, c), place);
            Check.due("PLACE stays at c", "1 0-" + c + " in 3", bench.match(all, true));
            Check.due("PLACE", "" + c, bench.text(5));
        }
        bench.match(bench.row(place, bench.node(Bench.FAIL)), false);
        Check.due("PLACE stays so", "64", bench.text(5));
        Check.due("PLACE once", "0 in 195", bench.match(bench.row(place, bench.node(Bench.FAIL)), false));
        bench.let(0, "a1b");
        int value = bench.node(Bench.VALUE, 5);
        Check.due("VALUE of PLACE", "1 1-2 in 6", bench.match(bench.row(place, value), false));
        bench.let(5, "");
        Check.due("VALUE of an empty variable", "1 0-0 in 1", bench.match(value, false));
        bench.let(5, "1b");
        Check.due("VALUE", "1 1-3 in 2", bench.match(value, false));
        bench.let(5, "1bc");
        Check.due("VALUE beyond the end", "0 in 4", bench.match(value, false));
        Check.due("VALUE of the subject's variable", "1 0-3 in 1", bench.match(bench.node(Bench.VALUE, 0), false));
    }

    private static void later() {
        Bench bench = Bench.with("((()))");
        int later = bench.node(Bench.LATER, 6);
        int open = bench.word("(");
        int close = bench.word(")");
        int none = bench.word("");
        int inside = bench.node(Bench.THEN, later, close);
        int nested = bench.node(Bench.THEN, open, inside);
        Check.due("LATER has no node yet", "0 in 4", bench.match(nested, true));
        Check.due("nest", 6, bench.node(Bench.OR, nested, none));
        // thrice OR THEN open THEN LATER, once OR THEN open none, thrice close
        Check.due("LATER", "1 0-6 in 22", bench.match(6, true));
        Check.due("LATER 63", "0 in 1", bench.match(bench.node(Bench.LATER, 63), true));
        Bench round = Bench.with("a");
        Check.due("LATER itself", "3 in 3000", round.match(round.node(Bench.LATER, 0), false));
        round.mill.clear();
        round.node(Bench.LATER, 1);
        round.node(Bench.LATER, 0);
        Check.due("LATER each other", "3 in 3000", round.match(1, false));
        round.mill.clear();
        round.node(Bench.LATER, 1);
        round.node(Bench.ARB);
        round.let(0, "xa");
        Check.due("LATER is gone back into", "1 0-2 in 5", round.match(round.row(0, round.word("a")), true));
    }

    private static void startsAndSteps() {
        Bench bench = Bench.with("aab");
        Check.due("from 0 on", "1 2-3 in 3", bench.match(bench.word("b"), false));
        Check.due("anchored", "0 in 1", bench.match(bench.word("b"), true));
        Check.due("up to n", "1 3-3 in 4", bench.match(bench.node(Bench.FROM, 3), false));
        Check.due("nowhere", "0 in 4", bench.match(bench.node(Bench.FAIL), false));
        Check.due("an empty subject", "0 in 1", bench.match(7, bench.node(Bench.FAIL), false));
        Check.due("another variable", "1 0-0 in 1", bench.match(7, bench.node(Bench.REST), false));
    }

    private static void theLastStep() {
        Bench bench = Bench.with("ab");
        int most = bench.ofSteps(3000);
        int less = bench.ofSteps(2998);
        int fail = bench.node(Bench.FAIL);
        Check.due("a match of 3000 steps", "1 0-0 in 3000", bench.match(most, true));
        Check.due("a match of 3001 steps", "3 in 3000", bench.match(bench.node(Bench.LATER, most), true));
        int failing = bench.node(Bench.THEN, less, fail);
        Check.due("3000 steps, and it fails", "0 in 3000", bench.match(failing, true));
        Check.due("3000 steps, and another start", "3 in 3000", bench.match(failing, false));
        int orFail = bench.node(Bench.OR, bench.node(Bench.THEN, bench.ofSteps(2997), fail), fail);
        Check.due("the 3001st would be the other way", "3 in 3000", bench.match(orFail, true));
        bench.let(1, "x");
        bench.match(bench.node(Bench.THEN, bench.node(Bench.NOW, bench.node(Bench.LEN, 0), 1), most), true);
        Check.due("NOW before too many steps", "", bench.text(1));
        bench.let(1, "x");
        bench.match(bench.node(Bench.THEN, bench.node(Bench.KEEP, bench.node(Bench.LEN, 0), 1), most), true);
        Check.due("KEEP before too many steps", "x", bench.text(1));
    }

    private static void subjectStays() {
        Bench bench = Bench.with("abc");
        int place = bench.node(Bench.PLACE, 0);
        Check.due("the subject is the text as it was", "1 0-3 in 3", bench.match(bench.row(place, bench.word("abc")), true));
        Check.due("the variable is not", "0", bench.text(0));
        bench.let(0, "abc");
        int now = bench.node(Bench.NOW, bench.node(Bench.LEN, 1), 0);
        Check.due("nor by NOW", "1 0-2 in 4", bench.match(bench.row(now, bench.word("b")), true));
        Check.due("NOW in the subject's variable", "a", bench.text(0));
    }

    private static void latest() {
        Bench bench = Bench.with("xxab");
        int ab = bench.word("ab");
        Check.due("before any match", NONE, bench.mill.latest(2));
        bench.mill.match(0, ab, false);
        Check.due("from", 2, bench.mill.latest(0));
        Check.due("to", 4, bench.mill.latest(1));
        Check.due("steps", 3, bench.mill.latest(2));
        for (int what : new int[] {-1, 3, 4, BIG, Integer.MIN_VALUE}) {
            Check.due("latest " + what, NONE, bench.mill.latest(what));
        }
        bench.mill.match(0, ab, true);
        Check.due("from, failed", NONE, bench.mill.latest(0));
        Check.due("to, failed", NONE, bench.mill.latest(1));
        Check.due("steps, failed", 1, bench.mill.latest(2));
        bench.mill.match(0, bench.node(Bench.ABORT), true);
        Check.due("from, aborted", NONE, bench.mill.latest(0));
        Check.due("steps, aborted", 1, bench.mill.latest(2));
    }

    private static void refused() {
        Bench bench = Bench.with("ab");
        bench.match(bench.word("b"), false);
        for (int v : new int[] {-1, 8, BIG, Integer.MIN_VALUE}) {
            Check.due("match of no variable", NONE, bench.mill.match(v, 0, false));
        }
        for (int node : new int[] {-1, 1, 64, BIG, Integer.MIN_VALUE}) {
            Check.due("match with no node", NONE, bench.mill.match(0, node, false));
        }
        Check.due("latest stays", 1, bench.mill.latest(0));
        Check.due("its steps too", 2, bench.mill.latest(2));
    }

    /** Hundreds of KEEPs and NOWs wait for each place of the ARB within them. */
    private static void deepChains() {
        Bench bench = Bench.with("x".repeat(60));
        int inmost = bench.node(Bench.OR, bench.row(bench.node(Bench.LEN, 1), bench.node(Bench.LATER, 40)), bench.node(Bench.ARB));
        int node = inmost;
        while (node < 40) {
            node = bench.node(node % 2 == 0 ? Bench.KEEP : Bench.NOW, node, node % 8);
        }
        // 36 KEEPs and NOWs, OR, THEN, LEN and LATER, 60 times; at the end LEN fails, and ARB is begun
        Check.due("deep", "1 0-60 in 2440", bench.match(40, true));
        Check.due("the outmost KEEP", "x".repeat(60), bench.text(38 % 8));
        Check.due("deep, and gone back all the way", "3 in 3000", bench.match(bench.row(40, bench.node(Bench.FAIL)), true));
    }
}
