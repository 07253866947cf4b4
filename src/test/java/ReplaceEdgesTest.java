/** The edges of promise 11, sentence by sentence. */
public final class ReplaceEdgesTest {
    private static final int BIG = Integer.MAX_VALUE;
    private static final int SMALL = Integer.MIN_VALUE;

    public static void main(String[] args) {
        replacesThePartBySlipsOfAllLengths();
        replacesEmptyParts();
        replacesAtTheEnds();
        theSlipIsEmptyThen();
        latestStaysAndServesAgain();
        otherVariablesStay();
        thePlacesCountNotTheSubject();
        theTextIsAsItIsNow();
        refusesNoVariable();
        refusesWithoutAMatch();
        refusesAfterAMatchThatDidNotEndWell();
        servesAgainAfterARefusedMatch();
        refusesATextWithFewerSigns();
        takesATextThatJustReaches();
        justSixtyFourSigns();
        refusesOneMore();
        Check.end();
    }

    /** A mill whose latest match went from one place to another of a text; variable 1 is another. */
    private static void matched(Bench bench, String text, int from, int to, String other, String slip) {
        bench.let(0, text);
        bench.let(1, other);
        int part = bench.row(bench.node(Bench.FROM, from), bench.node(Bench.TAB, to));
        Check.due("a match to replace", 1, bench.mill.match(0, part, false));
        bench.slip(slip);
    }

    private static void replaces(String want, String text, int from, int to, String slip) {
        Bench bench = new Bench();
        matched(bench, text, from, to, "other", slip);
        String what = from + "-" + to + " of '" + text + "' by '" + slip + "'";
        Check.due(what, true, bench.mill.replace(0));
        Check.due(what, want, bench.text(0));
    }

    private static void refuses(String what, int v, String text, int from, int to, String other, String slip) {
        Unmoved.by(what, bench -> matched(bench, text, from, to, other, slip), 0, mill -> mill.replace(v) ? 1 : 0);
    }

    private static void replacesThePartBySlipsOfAllLengths() {
        replaces("abXYZef", "abcdef", 2, 4, "XYZ");
        replaces("abXYef", "abcdef", 2, 4, "XY");
        replaces("abXef", "abcdef", 2, 4, "X");
        replaces("abef", "abcdef", 2, 4, "");
    }

    private static void replacesEmptyParts() {
        replaces("Xab", "ab", 0, 0, "X");
        replaces("aXYb", "ab", 1, 1, "XY");
        replaces("abX", "ab", 2, 2, "X");
        replaces("ab", "ab", 1, 1, "");
        replaces("XY", "", 0, 0, "XY");
        replaces("", "", 0, 0, "");
    }

    private static void replacesAtTheEnds() {
        replaces("Xbc", "abc", 0, 1, "X");
        replaces("abXX", "abc", 2, 3, "XX");
        replaces("X", "abc", 0, 3, "X");
        replaces("", "abc", 0, 3, "");
        replaces("", "a".repeat(64), 0, 64, "");
    }

    private static void theSlipIsEmptyThen() {
        Bench bench = new Bench();
        matched(bench, "abc", 1, 2, "", "XY");
        bench.mill.replace(0);
        bench.mill.let(2);
        Check.due("the slip after replace", 0, bench.mill.length(2));
        Bench next = new Bench();
        matched(next, "abc", 1, 2, "", "XY");
        next.mill.replace(0);
        Check.due("the first sign after replace", 1, next.mill.sign('q'));
        next.mill.let(2);
        Check.due("what comes after it", "q", next.text(2));
        Check.due("the replaced text is no longer the slip", "aXYc", next.text(0));
        Bench full = new Bench();
        matched(full, "", 0, 0, "", "f".repeat(64));
        Check.due("a full slip", true, full.mill.replace(0));
        Check.due("room again", 1, full.mill.sign('q'));
    }

    private static void latestStaysAndServesAgain() {
        Bench bench = new Bench();
        matched(bench, "abcd", 1, 3, "", "XYZ");
        bench.mill.replace(0);
        Check.due("from", 1, bench.mill.latest(0));
        Check.due("to", 3, bench.mill.latest(1));
        Check.due("again, of the new text", true, bench.mill.replace(0));
        Check.due("XY is taken out", "aZd", bench.text(0));
        Check.due("again, up to its end", true, bench.mill.replace(0));
        Check.due("Zd is taken out", "a", bench.text(0));
        Check.due("it has fewer signs now", false, bench.mill.replace(0));
    }

    private static void otherVariablesStay() {
        Bench bench = new Bench();
        for (int v = 1; v < 8; v++) {
            bench.let(v, "text " + v);
        }
        matched(bench, "abcd", 1, 3, "text 1", "X");
        Check.due("replace in 5", true, bench.mill.replace(5));
        for (int v = 1; v < 8; v++) {
            Check.due("text " + v, v == 5 ? "tXt 5" : "text " + v, bench.text(v));
        }
        Check.due("the subject's variable", "abcd", bench.text(0));
    }

    private static void thePlacesCountNotTheSubject() {
        for (int v : new int[] {0, 1, 7}) {
            Bench bench = new Bench();
            bench.let(7, "54321");
            matched(bench, "abcde", 2, 4, "12345", "-");
            Check.due("replace in " + v, true, bench.mill.replace(v));
            Check.due("its text", v == 0 ? "ab-e" : v == 1 ? "12-5" : "54-1", bench.text(v));
        }
    }

    private static void theTextIsAsItIsNow() {
        Bench letted = new Bench();
        matched(letted, "abcd", 1, 2, "", "");
        letted.let(0, "wxyz");
        letted.slip("-");
        Check.due("another text since", true, letted.mill.replace(0));
        Check.due("the part of the new text", "w-yz", letted.text(0));
        Bench kept = Bench.with("abcd");
        kept.mill.match(0, kept.node(Bench.KEEP, kept.node(Bench.LEN, 2), 0), true);
        kept.slip("-");
        Check.due("a text that the match itself set", true, kept.mill.replace(0));
        Check.due("all of it", "-", kept.text(0));
        Unmoved.by("a text that the match made shorter", bench -> {
            bench.let(0, "abcd");
            bench.mill.match(0, bench.row(bench.node(Bench.PLACE, 0), bench.node(Bench.REST)), true);
        }, 0, mill -> mill.replace(0) ? 1 : 0);
    }

    private static void refusesNoVariable() {
        for (int v : new int[] {-1, 8, 9, 64, 256, BIG, SMALL}) {
            refuses("replace(" + v + ")", v, "abc", 1, 2, "", "XY");
            refuses("replace(" + v + ") of nothing by nothing", v, "", 0, 0, "", "");
        }
    }

    private static void refusesWithoutAMatch() {
        for (int v = 0; v < 8; v++) {
            int variable = v;
            Unmoved.by("no match yet", Unmoved::neverMatched, 0, mill -> mill.replace(variable) ? 1 : 0);
        }
        Unmoved.by("none but a refused one", bench -> {
            Unmoved.neverMatched(bench);
            bench.mill.match(8, 0, false);
            bench.mill.match(0, 5, false);
        }, 0, mill -> mill.replace(0) ? 1 : 0);
    }

    private static void refusesAfterAMatchThatDidNotEndWell() {
        Unmoved.by("the match failed", Unmoved::failed, 0, mill -> mill.replace(0) ? 1 : 0);
        Unmoved.by("the match was aborted", Unmoved::aborted, 0, mill -> mill.replace(0) ? 1 : 0);
        Unmoved.by("too many steps", Unmoved::outOfSteps, 0, mill -> mill.replace(0) ? 1 : 0);
        Unmoved.by("failed, an empty variable", Unmoved::failed, 0, mill -> mill.replace(5) ? 1 : 0);
        Bench bench = new Bench();
        Unmoved.failed(bench);
        bench.mill.match(0, 0, false);
        Check.due("well again", true, bench.mill.replace(0));
        Check.due("its part", "one slip", bench.text(0));
    }

    private static void servesAgainAfterARefusedMatch() {
        Bench bench = new Bench();
        matched(bench, "abc", 1, 2, "", "-");
        bench.mill.match(-1, 0, true);
        bench.mill.match(0, 64, true);
        bench.mill.clear();
        bench.mill.match(0, 0, true);
        Check.due("the match before counts", true, bench.mill.replace(0));
        Check.due("its part", "a-c", bench.text(0));
    }

    private static void refusesATextWithFewerSigns() {
        refuses("one sign fewer", 1, "abcd", 1, 3, "12", "");
        refuses("none", 1, "abcd", 0, 1, "", "X");
        refuses("none, for an empty part", 1, "abcd", 1, 1, "", "X");
        refuses("fewer, though longer than the part", 1, "abcd", 3, 4, "123", "XYZ");
        refuses("63 of 64", 1, "a".repeat(64), 64, 64, "1".repeat(63), "");
        refuses("an empty variable", 5, "a".repeat(64), 0, 64, "1", "X");
    }

    private static void takesATextThatJustReaches() {
        Bench bench = new Bench();
        matched(bench, "abcd", 1, 3, "123", "X");
        Check.due("just as many signs as the place", true, bench.mill.replace(1));
        Check.due("its end", "1X", bench.text(1));
        Bench empty = new Bench();
        matched(empty, "abcd", 0, 0, "", "X");
        Check.due("place 0 of an empty text", true, empty.mill.replace(1));
        Check.due("the slip", "X", empty.text(1));
    }

    private static void justSixtyFourSigns() {
        replaces("X".repeat(64), "", 0, 0, "X".repeat(64));
        replaces("X".repeat(64), "a".repeat(64), 0, 64, "X".repeat(64));
        replaces("a".repeat(32) + "X" + "b".repeat(31), "a".repeat(32) + "b".repeat(31), 32, 32, "X");
        replaces("a" + "X".repeat(62) + "c", "abc", 1, 2, "X".repeat(62));
        replaces("a".repeat(64), "a".repeat(64), 64, 64, "");
        replaces("a".repeat(63) + "X", "a".repeat(64), 63, 64, "X");
    }

    private static void refusesOneMore() {
        refuses("65 of 1 and 64", 0, "a", 0, 0, "", "X".repeat(64));
        refuses("65 of 1 and 64, at its end", 0, "a", 1, 1, "", "X".repeat(64));
        refuses("65 of 64 and 1", 0, "a".repeat(64), 64, 64, "", "X");
        refuses("65 of 64 and 1, at its beginning", 0, "a".repeat(64), 0, 0, "", "X");
        refuses("65, 1 by 2", 0, "a".repeat(64), 30, 31, "", "XY");
        refuses("65, 1 by 63", 0, "abc", 1, 2, "", "X".repeat(63));
        refuses("65 in another variable", 1, "ab", 0, 1, "1".repeat(64), "XY");
        refuses("127", 0, "a".repeat(64), 0, 1, "", "X".repeat(64));
    }
}
