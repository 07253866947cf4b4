/** The edges of the kinds 14 to 23, sentence by sentence: those that have parts, set variables or abort. */
public final class PartEdgesTest {
    private static final String ALL_A = "a".repeat(64);

    public static void main(String[] args) {
        fenceSucceedsAtItsPlace();
        fenceGoneBackIntoAborts();
        fenceNotReachedOrNotGoneBackInto();
        abortAtOnce();
        abortNotReached();
        manyAtItsPlaceFirst();
        manyGoesOnWhereItsPartSucceeds();
        manyFailsWhenItsPartDoes();
        manyGoesBackIntoItsPart();
        manyOfNothingNeverEnds();
        thenWhereBothSucceed();
        thenGoesBackIntoItsFirst();
        thenFailsWhenItsFirstDoes();
        orTakesItsFirst();
        orTakesItsSecondWhenItsFirstFails();
        orGoesBackIntoBoth();
        keepFromItsPlaceOn();
        keepOnlyWhenTheMatchEndsWell();
        keepOnlyWithAPartInIt();
        keepBeforeAWayBackStays();
        keepIsNotYetThereDuringTheMatch();
        keepsInTheOrderOfTheirSuccess();
        keepInTheSubjectsVariable();
        keepFailsAsItsPart();
        nowAtOnce();
        nowStaysWhateverComes();
        nowWheneverItsPartSucceeds();
        nowThatFailsSetsNothing();
        nowAndKeepOfOneVariable();
        placeInDigits();
        placeStaysWhateverComes();
        valueAtThatMoment();
        valueAtTheEnds();
        laterWithoutANode();
        laterAsItsNode();
        laterOfItself();
        Check.end();
    }

    private static void fenceSucceedsAtItsPlace() {
        for (String text : new String[] {"", "abc", ALL_A}) {
            Bench bench = Bench.with(text);
            int fence = bench.node(Bench.FENCE);
            Check.due("FENCE", "1 0-0 in 1", bench.match(fence, false));
            int n = text.length();
            Check.due("FENCE at n", "1 0-" + n + " in 3", bench.match(bench.row(bench.node(Bench.REST), fence), true));
        }
    }

    private static void fenceGoneBackIntoAborts() {
        for (String text : new String[] {"", "abc", ALL_A}) {
            Bench bench = Bench.with(text);
            int fence = bench.node(Bench.FENCE);
            int fail = bench.node(Bench.FAIL);
            int closed = bench.row(fence, fail);
            Check.due("the whole match", "2 in 3", bench.match(closed, false));
            Check.due("anchored", "2 in 3", bench.match(closed, true));
            Check.due("no other way", "2 in 4", bench.match(bench.node(Bench.OR, closed, fence), false));
            Check.due("no way further back", "2 in 5", bench.match(bench.row(bench.node(Bench.ARB), closed), false));
            Check.due("within KEEP", "2 in 4", bench.match(bench.row(bench.node(Bench.KEEP, fence, 1), fail), false));
            Check.due("within NOW", "2 in 4", bench.match(bench.row(bench.node(Bench.NOW, fence, 1), fail), false));
            Check.due("by LATER", "2 in 4", bench.match(bench.row(bench.node(Bench.LATER, 0), fail), false));
            Check.due("the first of OR", "2 in 4", bench.match(bench.row(bench.node(Bench.OR, fence, fail), fail), false));
            Check.due("the second of OR", "2 in 5", bench.match(bench.row(bench.node(Bench.OR, fail, fence), fail), false));
        }
    }

    private static void fenceNotReachedOrNotGoneBackInto() {
        Bench bench = Bench.with("aab");
        int fence = bench.node(Bench.FENCE);
        int b = bench.word("b");
        Check.due("the last node", "1 2-3 in 7", bench.match(bench.row(b, fence), false));
        Check.due("not begun", "0 in 2", bench.match(bench.row(b, fence), true));
        int twoAndB = bench.row(bench.word("aa"), fence, b);
        Check.due("nothing behind it fails", "1 0-3 in 5", bench.match(twoAndB, false));
        int choiceBehind = bench.row(fence, bench.node(Bench.ARB), b);
        Check.due("choices behind it stay open", "1 0-3 in 7", bench.match(choiceBehind, false));
    }

    private static void abortAtOnce() {
        for (String text : new String[] {"", "abc", ALL_A}) {
            Bench bench = Bench.with(text);
            int abort = bench.node(Bench.ABORT);
            int rest = bench.node(Bench.REST);
            Check.due("at once", "2 in 1", bench.match(abort, false));
            Check.due("anchored", "2 in 1", bench.match(abort, true));
            Check.due("the other way is closed", "2 in 2", bench.match(bench.node(Bench.OR, abort, rest), false));
            Check.due("ways before are closed", "2 in 3", bench.match(bench.row(bench.node(Bench.ARB), abort), false));
            Check.due("by LATER", "2 in 2", bench.match(bench.node(Bench.LATER, abort), false));
            Check.due("in KEEP", "2 in 2", bench.match(bench.node(Bench.KEEP, abort, 0), false));
            Check.due("in MANY gone back into", "2 in 4",
                    bench.match(bench.row(bench.node(Bench.MANY, abort), bench.node(Bench.FAIL)), false));
            Check.due("the subject's variable", text, bench.text(0));
        }
    }

    private static void abortNotReached() {
        Bench bench = Bench.with("ab");
        int abort = bench.node(Bench.ABORT);
        int x = bench.word("x");
        Check.due("behind what fails", "0 in 6", bench.match(bench.row(x, abort), false));
        Check.due("instead of what succeeds", "1 0-1 in 2", bench.match(bench.node(Bench.OR, bench.word("a"), abort), false));
        Check.due("in MANY that is not gone back into", "1 0-0 in 1", bench.match(bench.node(Bench.MANY, abort), false));
    }

    private static void manyAtItsPlaceFirst() {
        for (String text : new String[] {"", "abc", ALL_A}) {
            Bench bench = Bench.with(text);
            int many = bench.node(Bench.MANY, bench.node(Bench.LEN, 1));
            Check.due("MANY", "1 0-0 in 1", bench.match(many, false));
            int n = text.length();
            Check.due("MANY at n", "1 0-" + n + " in 3", bench.match(bench.row(bench.node(Bench.REST), many), true));
        }
    }

    private static void manyGoesOnWhereItsPartSucceeds() {
        for (int n : new int[] {0, 1, 2, 63, 64}) {
            Bench bench = Bench.with("a".repeat(n));
            int all = bench.row(bench.node(Bench.MANY, bench.word("a")), bench.node(Bench.BEFORE, 0));
            // THEN MANY BEFORE, and for each sign a, MANY anew and BEFORE
            Check.due(n + " times", "1 0-" + n + " in " + (3 + 3 * n), bench.match(all, true));
        }
    }

    private static void manyFailsWhenItsPartDoes() {
        Bench bench = Bench.with("aab");
        int fail = bench.node(Bench.FAIL);
        // THEN MANY FAIL(b), then FAIL(a)
        Check.due("MANY of FAIL", "0 in 4", bench.match(bench.row(bench.node(Bench.MANY, fail), fail), true));
        int many = bench.node(Bench.MANY, bench.word("a"));
        // THEN MANY FAIL, a MANY FAIL, a MANY FAIL, a
        Check.due("MANY of two", "0 in 10", bench.match(bench.row(many, fail), true));
        Bench empty = Bench.with("");
        int one = empty.node(Bench.MANY, empty.node(Bench.LEN, 1));
        Check.due("MANY of an empty subject", "0 in 4", empty.match(empty.row(one, empty.node(Bench.FAIL)), false));
    }

    private static void manyGoesBackIntoItsPart() {
        Bench bench = Bench.with("aab");
        int one = bench.word("a");
        int two = bench.word("aa");
        int twoOrOne = bench.node(Bench.MANY, bench.node(Bench.OR, two, one));
        // THEN MANY FROM, OR aa MANY FROM, OR aa a at 2, where all fail, then a instead of aa, MANY FROM
        Check.due("the other way of its part", "1 0-1 in 13",
                bench.match(bench.row(twoOrOne, bench.node(Bench.FROM, 1)), true));
        int balanced = bench.node(Bench.MANY, bench.node(Bench.BALANCED));
        Check.due("the next place of its part", "1 0-3 in 12",
                bench.match(bench.row(balanced, bench.node(Bench.FROM, 3)), true));
    }

    private static void manyOfNothingNeverEnds() {
        for (String text : new String[] {"", "abc"}) {
            Bench bench = Bench.with(text);
            int fail = bench.node(Bench.FAIL);
            int nothing = bench.node(Bench.MANY, bench.word(""));
            Check.due("MANY of nothing", "1 0-0 in 1", bench.match(nothing, false));
            Check.due("gone back into", "3 in 3000", bench.match(bench.row(nothing, fail), false));
            int fences = bench.node(Bench.MANY, bench.node(Bench.FENCE));
            Check.due("its FENCEs are not gone back into", "3 in 3000", bench.match(bench.row(fences, fail), false));
            int manies = bench.node(Bench.MANY, nothing);
            Check.due("MANY of MANY", "3 in 3000", bench.match(bench.row(manies, fail), false));
        }
    }

    private static void thenWhereBothSucceed() {
        Bench empty = Bench.with("");
        int nothing = empty.word("");
        Check.due("nothing behind nothing", "1 0-0 in 3", empty.match(empty.row(nothing, nothing), false));
        Bench bench = Bench.with("ab");
        int a = bench.word("a");
        int b = bench.word("b");
        Check.due("up to n", "1 0-2 in 3", bench.match(bench.row(a, b), false));
        Check.due("beyond n", "0 in 5", bench.match(bench.row(a, b, b), true));
        Check.due("the other order", "0 in 7", bench.match(bench.row(b, a), false));
    }

    private static void thenGoesBackIntoItsFirst() {
        Bench bench = Bench.with("abc");
        int arb = bench.node(Bench.ARB);
        for (int p = 0; p <= 3; p++) {
            String want = "1 0-" + p + " in " + (3 + p);
            Check.due("up to " + p, want, bench.match(bench.row(arb, bench.node(Bench.FROM, p)), true));
        }
        Check.due("as long as it succeeds", "0 in 6", bench.match(bench.row(arb, bench.node(Bench.FROM, 4)), true));
        int second = bench.row(bench.word("a"), arb);
        int both = bench.node(Bench.THEN, second, bench.node(Bench.BEFORE, 0));
        // THEN THEN a ARB, and BEFORE at 1, 2, 3
        Check.due("into the second of its first", "1 0-3 in 7", bench.match(both, true));
        int arbs = bench.row(arb, arb, bench.node(Bench.FAIL));
        // THEN ARB, and at 0 .. 3 THEN ARB with FAIL at each place from there on
        Check.due("into both, all the way", "0 in 20", bench.match(arbs, true));
    }

    private static void thenFailsWhenItsFirstDoes() {
        Bench bench = Bench.with("ab");
        int fail = bench.node(Bench.FAIL);
        int rest = bench.node(Bench.REST);
        Check.due("its second is not begun", "0 in 2", bench.match(bench.row(fail, rest), true));
        Check.due("nor anywhere", "0 in 6", bench.match(bench.row(fail, rest), false));
        Check.due("its second fails", "0 in 3", bench.match(bench.row(rest, fail), true));
    }

    private static void orTakesItsFirst() {
        Bench bench = Bench.with("ab");
        int one = bench.node(Bench.LEN, 1);
        int two = bench.node(Bench.LEN, 2);
        Check.due("the first", "1 0-1 in 2", bench.match(bench.node(Bench.OR, one, two), true));
        Check.due("though shorter or longer", "1 0-2 in 2", bench.match(bench.node(Bench.OR, two, one), true));
        Check.due("one node twice", "1 0-1 in 2", bench.match(bench.node(Bench.OR, one, one), true));
    }

    private static void orTakesItsSecondWhenItsFirstFails() {
        Bench bench = Bench.with("ab");
        int fail = bench.node(Bench.FAIL);
        int one = bench.node(Bench.LEN, 1);
        Check.due("the second", "1 0-1 in 3", bench.match(bench.node(Bench.OR, fail, one), true));
        Check.due("neither", "0 in 3", bench.match(bench.node(Bench.OR, fail, fail), true));
        Check.due("neither, anywhere", "0 in 9", bench.match(bench.node(Bench.OR, fail, fail), false));
        int farThenFail = bench.row(one, one, fail);
        Check.due("the second is begun where the first was", "1 0-1 in 7",
                bench.match(bench.node(Bench.OR, farThenFail, one), true));
    }

    private static void orGoesBackIntoBoth() {
        Bench bench = Bench.with("ab");
        int arb = bench.node(Bench.ARB);
        int fail = bench.node(Bench.FAIL);
        // THEN OR, ARB and FAIL at 0, 1, 2, twice
        Check.due("each place of both", "0 in 10", bench.match(bench.row(bench.node(Bench.OR, arb, arb), fail), true));
        Check.due("each place of the second", "0 in 7", bench.match(bench.row(bench.node(Bench.OR, fail, arb), fail), true));
        int oneOrTwo = bench.node(Bench.OR, bench.node(Bench.LEN, 1), bench.node(Bench.LEN, 2));
        Check.due("the second when it is gone back into", "1 0-2 in 6",
                bench.match(bench.row(oneOrTwo, bench.node(Bench.BEFORE, 0)), true));
    }

    private static void keepFromItsPlaceOn() {
        for (int[] part : new int[][] {{0, 0}, {0, 64}, {1, 63}, {63, 64}, {64, 64}}) {
            Bench bench = Bench.with("ab".repeat(32));
            bench.let(3, "before");
            int keep = bench.node(Bench.KEEP, bench.node(Bench.TAB, part[1]), 3);
            bench.match(bench.row(bench.node(Bench.TAB, part[0]), keep), true);
            Check.due("kept " + part[0] + "-" + part[1], "ab".repeat(32).substring(part[0], part[1]), bench.text(3));
        }
        Bench empty = new Bench();
        empty.let(3, "before");
        empty.match(empty.node(Bench.KEEP, empty.node(Bench.REST), 3), false);
        Check.due("kept of an empty subject", "", empty.text(3));
        Bench start = Bench.with("aab");
        start.match(start.node(Bench.KEEP, start.leaf(Bench.SPAN, "b"), 3), false);
        Check.due("kept from a later start", "b", start.text(3));
    }

    private static void keepOnlyWhenTheMatchEndsWell() {
        Bench bench = Bench.with("abc");
        bench.let(3, "before");
        int keep = bench.node(Bench.KEEP, bench.node(Bench.LEN, 1), 3);
        bench.match(bench.row(keep, bench.node(Bench.FAIL)), false);
        Check.due("failed", "before", bench.text(3));
        bench.match(bench.row(keep, bench.node(Bench.ABORT)), false);
        Check.due("aborted", "before", bench.text(3));
        int endless = bench.row(bench.node(Bench.MANY, bench.word("")), bench.node(Bench.FAIL));
        bench.match(bench.row(keep, endless), false);
        Check.due("too many steps", "before", bench.text(3));
        bench.match(bench.node(Bench.REST), false);
        Check.due("well, but another match", "before", bench.text(3));
        bench.match(keep, false);
        Check.due("well", "a", bench.text(3));
    }

    private static void keepOnlyWithAPartInIt() {
        Bench bench = Bench.with("aab");
        bench.let(3, "before");
        int fail = bench.node(Bench.FAIL);
        int rest = bench.node(Bench.REST);
        int keep = bench.node(Bench.KEEP, bench.word("a"), 3);
        bench.match(bench.node(Bench.OR, bench.row(keep, fail), rest), true);
        Check.due("another way was taken", "before", bench.text(3));
        bench.match(bench.node(Bench.OR, rest, keep), true);
        Check.due("the way to it was not taken", "before", bench.text(3));
        bench.match(bench.node(Bench.OR, bench.row(keep, bench.word("c")), bench.word("b")), false);
        Check.due("only at starts that failed", "before", bench.text(3));
        bench.match(bench.row(bench.node(Bench.MANY, keep), bench.node(Bench.FROM, 0)), true);
        Check.due("MANY, none of them", "before", bench.text(3));
        int inMany = bench.node(Bench.MANY, bench.node(Bench.OR, bench.row(keep, keep, keep), bench.node(Bench.LEN, 3)));
        bench.match(bench.row(inMany, bench.node(Bench.BEFORE, 0)), true);
        Check.due("those before the way back", "before", bench.text(3));
        int arb = bench.node(Bench.KEEP, bench.node(Bench.ARB), 3);
        bench.match(bench.row(arb, bench.word("b")), true);
        Check.due("its last success alone", "aa", bench.text(3));
    }

    private static void keptBefore(String way, Bench bench, int behind) {
        bench.let(3, "before");
        int keep = bench.node(Bench.KEEP, bench.node(Bench.LEN, 1), 3);
        int all = bench.row(keep, behind, bench.node(Bench.BEFORE, 0));
        Check.due("a match by going back into " + way, 1, bench.mill.match(0, all, true));
        Check.due("KEEP before " + way, "a", bench.text(3));
    }

    private static void keepBeforeAWayBackStays() {
        Bench bench = Bench.with("abc");
        int one = bench.node(Bench.LEN, 1);
        int two = bench.node(Bench.LEN, 2);
        keptBefore("ARB", bench, bench.node(Bench.ARB));
        keptBefore("BALANCED", bench, bench.node(Bench.BALANCED));
        keptBefore("MANY", bench, bench.node(Bench.MANY, one));
        keptBefore("OR", bench, bench.node(Bench.OR, one, two));
        keptBefore("KEEP of another variable", bench, bench.node(Bench.KEEP, bench.node(Bench.ARB), 4));
        Check.due("which is kept too", "bc", bench.text(4));
    }

    private static void keepIsNotYetThereDuringTheMatch() {
        Bench bench = Bench.with("abab");
        bench.let(3, "b");
        int keep = bench.node(Bench.KEEP, bench.word("a"), 3);
        Check.due("VALUE is as before", "1 0-2 in 4", bench.match(bench.row(keep, bench.node(Bench.VALUE, 3)), true));
        Check.due("kept at the end", "a", bench.text(3));
    }

    private static void keepsInTheOrderOfTheirSuccess() {
        Bench bench = Bench.with("abcd");
        int one = bench.node(Bench.KEEP, bench.node(Bench.LEN, 1), 3);
        int two = bench.node(Bench.KEEP, bench.node(Bench.LEN, 2), 3);
        bench.match(bench.row(one, two), true);
        Check.due("the one behind is the last", "bc", bench.text(3));
        bench.match(bench.row(two, one), true);
        Check.due("in the other order too", "c", bench.text(3));
        bench.match(bench.node(Bench.KEEP, bench.row(one, two), 3), true);
        Check.due("the one around both is the last", "abc", bench.text(3));
        bench.match(bench.row(bench.node(Bench.MANY, one), bench.node(Bench.BEFORE, 0)), true);
        Check.due("the last of many", "d", bench.text(3));
        int again = bench.node(Bench.KEEP, bench.node(Bench.ARB), 3);
        bench.match(bench.row(again, one, bench.node(Bench.BEFORE, 0)), true);
        Check.due("the one behind, though the first was gone back into", "d", bench.text(3));
        bench.match(bench.node(Bench.KEEP, bench.node(Bench.KEEP, bench.node(Bench.LEN, 2), 4), 5), true);
        Check.due("one node kept twice", "ab ab", bench.text(4) + " " + bench.text(5));
    }

    private static void keepInTheSubjectsVariable() {
        Bench bench = Bench.with("abcd");
        int first = bench.node(Bench.KEEP, bench.node(Bench.LEN, 1), 0);
        int second = bench.node(Bench.KEEP, bench.node(Bench.LEN, 2), 1);
        Check.due("the subject is as at first", "1 0-3 in 5", bench.match(bench.row(first, second), true));
        Check.due("both are parts of it", "a bc", bench.text(0) + " " + bench.text(1));
    }

    private static void keepFailsAsItsPart() {
        Bench bench = Bench.with("abc");
        bench.let(3, "before");
        Check.due("KEEP of FAIL", "0 in 8", bench.match(bench.node(Bench.KEEP, bench.node(Bench.FAIL), 3), false));
        Check.due("nothing is kept", "before", bench.text(3));
        int arb = bench.node(Bench.KEEP, bench.node(Bench.ARB), 3);
        Check.due("gone back into as its part", "0 in 7", bench.match(bench.row(arb, bench.node(Bench.FAIL)), true));
    }

    private static void nowAtOnce() {
        for (int[] part : new int[][] {{0, 0}, {0, 64}, {1, 63}, {63, 64}, {64, 64}}) {
            Bench bench = Bench.with("ab".repeat(32));
            bench.let(3, "before");
            int now = bench.node(Bench.NOW, bench.node(Bench.TAB, part[1]), 3);
            bench.match(bench.row(bench.node(Bench.TAB, part[0]), now), true);
            Check.due("now " + part[0] + "-" + part[1], "ab".repeat(32).substring(part[0], part[1]), bench.text(3));
        }
        Bench bench = Bench.with("abab");
        bench.let(3, "x");
        int twice = bench.row(bench.node(Bench.NOW, bench.node(Bench.LEN, 2), 3), bench.node(Bench.VALUE, 3));
        Check.due("VALUE has it", "1 0-4 in 4", bench.match(twice, true));
    }

    private static void nowStaysWhateverComes() {
        Bench bench = Bench.with("abc");
        int now = bench.node(Bench.NOW, bench.node(Bench.LEN, 1), 3);
        bench.match(bench.row(now, bench.node(Bench.FAIL)), true);
        Check.due("failed", "a", bench.text(3));
        bench.match(bench.row(now, bench.node(Bench.FAIL)), false);
        Check.due("failed, the last start where it succeeded", "c", bench.text(3));
        bench.match(bench.row(now, bench.node(Bench.ABORT)), false);
        Check.due("aborted", "a", bench.text(3));
        bench.let(3, "before");
        int endless = bench.row(bench.node(Bench.MANY, bench.word("")), bench.node(Bench.FAIL));
        bench.match(bench.row(now, endless), false);
        Check.due("too many steps", "a", bench.text(3));
        bench.let(3, "before");
        bench.match(bench.node(Bench.OR, bench.row(now, bench.node(Bench.FAIL)), bench.node(Bench.REST)), true);
        Check.due("another way was taken", "a", bench.text(3));
    }

    private static void nowWheneverItsPartSucceeds() {
        Bench bench = Bench.with("abcabc");
        int now = bench.node(Bench.NOW, bench.node(Bench.ARB), 3);
        int value = bench.node(Bench.VALUE, 3);
        // THEN NOW ARB, and THEN VALUE BEFORE at 0 (VALUE is empty), THEN VALUE at 1, 2 and all three at 3
        Check.due("each time", "1 0-6 in 13", bench.match(bench.row(now, value, bench.node(Bench.BEFORE, 0)), true));
        Check.due("the last time", "abc", bench.text(3));
        bench.match(bench.row(now, bench.node(Bench.FAIL)), true);
        Check.due("until it fails", "abcabc", bench.text(3));
    }

    private static void nowThatFailsSetsNothing() {
        Bench bench = Bench.with("abc");
        bench.let(3, "before");
        Check.due("NOW of FAIL", "0 in 8", bench.match(bench.node(Bench.NOW, bench.node(Bench.FAIL), 3), false));
        Check.due("as before", "before", bench.text(3));
        bench.match(bench.node(Bench.NOW, bench.node(Bench.ABORT), 3), false);
        Check.due("as before ABORT", "before", bench.text(3));
        bench.match(bench.row(bench.node(Bench.FAIL), bench.node(Bench.NOW, bench.node(Bench.REST), 3)), false);
        Check.due("NOW that is not begun", "before", bench.text(3));
    }

    private static void nowAndKeepOfOneVariable() {
        Bench bench = Bench.with("abc");
        int keep = bench.node(Bench.KEEP, bench.node(Bench.LEN, 1), 3);
        int now = bench.node(Bench.NOW, bench.node(Bench.LEN, 2), 3);
        bench.match(bench.row(keep, now), true);
        Check.due("KEEP comes at the end", "a", bench.text(3));
        bench.match(bench.row(keep, now, bench.node(Bench.FAIL)), true);
        Check.due("but not if the match fails", "bc", bench.text(3));
    }

    private static void placeInDigits() {
        Bench bench = Bench.with(ALL_A);
        int place = bench.node(Bench.PLACE, 6);
        bench.let(6, "0123456789");
        for (int c : new int[] {0, 1, 9, 10, 19, 20, 63, 64}) {
            int there = bench.row(bench.node(Bench.TAB, c), place);
            Check.due("PLACE stays at " + c, "1 0-" + c + " in 3", bench.match(there, true));
            Check.due("PLACE " + c, "" + c, bench.text(6));
        }
        Bench empty = new Bench();
        Check.due("PLACE of an empty subject", "1 0-0 in 1", empty.match(empty.node(Bench.PLACE, 0), false));
        Check.due("0 in digits", "0", empty.text(0));
    }

    private static void placeStaysWhateverComes() {
        Bench bench = Bench.with("abcdefghijkl");
        int place = bench.node(Bench.PLACE, 3);
        Check.due("PLACE succeeds once", "0 in 39", bench.match(bench.row(place, bench.node(Bench.FAIL)), false));
        Check.due("failed, the last start", "12", bench.text(3));
        Check.due("aborted", "2 in 3", bench.match(bench.row(place, bench.node(Bench.ABORT)), false));
        Check.due("the first start", "0", bench.text(3));
        bench.let(3, "before");
        bench.match(bench.row(bench.node(Bench.FAIL), place), false);
        Check.due("not begun", "before", bench.text(3));
        bench.let(0, "abc");
        int own = bench.row(bench.node(Bench.LEN, 2), bench.node(Bench.PLACE, 0), bench.word("c"), bench.node(Bench.BEFORE, 0));
        Check.due("in the subject's variable", "1 0-3 in 7", bench.match(own, true));
        Check.due("that is the place then", "2", bench.text(0));
    }

    private static void valueAtThatMoment() {
        Bench bench = Bench.with("a1b1");
        int value = bench.node(Bench.VALUE, 3);
        bench.let(3, "b");
        Check.due("before", "1 2-3 in 3", bench.match(value, false));
        bench.let(3, "1");
        Check.due("another text since", "1 1-2 in 2", bench.match(value, false));
        int place = bench.node(Bench.PLACE, 3);
        Check.due("after PLACE", "1 1-2 in 6", bench.match(bench.row(place, value), false));
        bench.let(3, "a");
        int both = bench.row(value, place, value);
        Check.due("before and after PLACE", "1 0-2 in 5", bench.match(both, true));
        bench.let(0, "abab");
        int own = bench.row(bench.node(Bench.NOW, bench.node(Bench.LEN, 2), 0), bench.node(Bench.VALUE, 0));
        Check.due("the subject's variable, changed", "1 0-4 in 4", bench.match(own, true));
    }

    private static void valueAtTheEnds() {
        Bench bench = Bench.with("abc");
        int value = bench.node(Bench.VALUE, 3);
        Check.due("an empty text", "1 0-0 in 1", bench.match(value, false));
        int atEnd = bench.row(bench.node(Bench.REST), value);
        Check.due("an empty text at n", "1 0-3 in 3", bench.match(atEnd, true));
        bench.let(3, "c");
        Check.due("up to n", "1 2-3 in 3", bench.match(value, false));
        Check.due("a text at n", "0 in 3", bench.match(atEnd, true));
        bench.let(3, "cd");
        Check.due("beyond n", "0 in 4", bench.match(value, false));
        bench.let(3, "abc");
        Check.due("all of it", "1 0-3 in 1", bench.match(value, true));
        Check.due("once alone", "0 in 3", bench.match(bench.row(value, bench.node(Bench.FAIL)), true));
        bench.let(3, "abcd");
        Check.due("one sign more than all", "0 in 4", bench.match(value, false));
        Check.due("against an empty subject", "0 in 1", bench.match(4, value, false));
        Bench full = Bench.with(ALL_A);
        full.let(3, ALL_A);
        int asked = full.node(Bench.VALUE, 3);
        Check.due("64 of 64", "1 0-64 in 1", full.match(asked, false));
        Check.due("64 of 63", "0 in 3", full.match(full.row(full.node(Bench.LEN, 1), asked), true));
    }

    private static void laterWithoutANode() {
        for (int number : new int[] {1, 2, 63}) {
            Bench bench = Bench.with("abc");
            int later = bench.node(Bench.LATER, number);
            Check.due("LATER " + number, "0 in 4", bench.match(later, false));
            Check.due("anchored", "0 in 1", bench.match(later, true));
        }
        Bench bench = Bench.with("abc");
        int later = bench.node(Bench.LATER, 3);
        int or = bench.node(Bench.OR, later, bench.node(Bench.REST));
        Check.due("the other way is taken", "1 0-3 in 3", bench.match(or, true));
    }

    private static void laterAsItsNode() {
        Bench bench = Bench.with("abc");
        int later = bench.node(Bench.LATER, 2);
        int all = bench.node(Bench.THEN, later, later);
        Check.due("not yet", "0 in 2", bench.match(all, true));
        Check.due("its node", 2, bench.node(Bench.ARB));
        Check.due("as its node, which is begun", "1 0-0 in 2", bench.match(later, true));
        int upTo3 = bench.row(later, bench.node(Bench.FROM, 3));
        Check.due("gone back into as its node", "1 0-3 in 7", bench.match(upTo3, true));
        bench.mill.clear();
        bench.node(Bench.LATER, 1);
        Check.due("gone by clear", "0 in 1", bench.match(0, true));
        bench.word("a");
        Check.due("another node of that number", "1 0-1 in 2", bench.match(0, true));
        Bench last = Bench.with("abc");
        last.node(Bench.LATER, 63);
        for (int i = 1; i < 63; i++) {
            last.node(Bench.FAIL);
        }
        Check.due("63 is not there yet", "0 in 4", last.match(0, false));
        last.word("c");
        Check.due("63 is there", "1 2-3 in 6", last.match(0, false));
    }

    private static void laterOfItself() {
        Bench bench = Bench.with("");
        Check.due("LATER itself", "3 in 3000", bench.match(bench.node(Bench.LATER, 0), true));
        bench.mill.clear();
        bench.let(0, "((a))");
        int inner = bench.node(Bench.LATER, 6);
        int open = bench.word("(");
        int close = bench.word(")");
        int nested = bench.node(Bench.THEN, open, bench.node(Bench.THEN, inner, close));
        bench.word("a");
        bench.node(Bench.OR, nested, 5);
        // OR THEN open THEN LATER twice, OR THEN open a, and close twice
        Check.due("a pattern in itself", "1 0-5 in 16", bench.match(6, true));
        bench.let(0, "((a)");
        // at 0 the 15 steps to the first close, the second that fails, and a twice; at 1 ten steps
        Check.due("one bracket too many", "1 1-4 in 28", bench.match(6, false));
    }
}
