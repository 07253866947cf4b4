import java.util.Set;

/** The edges of promises 9 and 10, sentence by sentence: a match as a whole, its steps, latest. */
public final class MatchEdgesTest {
    private static final int NONE = PatternMill.NONE;
    private static final int BIG = Integer.MAX_VALUE;
    private static final int SMALL = Integer.MIN_VALUE;
    private static final String ALL_A = "a".repeat(64);

    public static void main(String[] args) {
        beginsAtEachPlaceUpToTheEnd();
        anchoredAtTheFirstPlaceAlone();
        emptySubject();
        endOfTheSubject();
        theSubjectIsAsItWasAtFirst();
        eachVariableCanBeTheSubject();
        eachOfItsAnswers();
        refusesNoVariable();
        refusesNoNode();
        aMatchLeavesNothingForTheNext();
        startsCountTogether();
        theLastStepByEachWay();
        theLastStepThatAborts();
        theLastStepThatFails();
        goingBackIsNoStep();
        whatIsSetBeforeTooManySteps();
        latestOfAMatchThatEndedWell();
        latestOfAMatchThatDidNot();
        latestBeforeAnyMatch();
        latestOfAnotherWhat();
        latestIsTheLatest();
        Check.end();
    }

    private static void beginsAtEachPlaceUpToTheEnd() {
        for (int n : new int[] {0, 1, 2, 63, 64}) {
            Bench bench = Bench.with("a".repeat(n));
            Check.due("fails at all of " + n, "0 in " + (n + 1), bench.match(bench.node(Bench.FAIL), false));
            String atEnd = "1 " + n + "-" + n + " in " + (n + 1);
            Check.due("begun at n too", atEnd, bench.match(bench.node(Bench.BEFORE, 0), false));
            Check.due("the first place that does", "1 0-" + n + " in 1", bench.match(bench.node(Bench.REST), false));
            Check.due("never beyond n", "0 in " + (n + 1), bench.match(bench.node(Bench.FROM, n + 1), false));
        }
        Bench bench = Bench.with("xaxa");
        Check.due("the first of two", "1 1-2 in 2", bench.match(bench.word("a"), false));
    }

    private static void anchoredAtTheFirstPlaceAlone() {
        for (int n : new int[] {0, 1, 64}) {
            Bench bench = Bench.with("a".repeat(n));
            Check.due("fails at 0", "0 in 1", bench.match(bench.node(Bench.FAIL), true));
            Check.due("begun at 0", "1 0-0 in 1", bench.match(bench.node(Bench.FROM, 0), true));
            Check.due("not at 1", "0 in 1", bench.match(bench.node(Bench.FROM, 1), true));
        }
        Bench bench = Bench.with("xa");
        Check.due("a later place", "0 in 1", bench.match(bench.word("a"), true));
        Check.due("which is there", "1 1-2 in 2", bench.match(bench.word("a"), false));
    }

    /** Each kind with an empty text, with 0, or with parts that are an empty WORD. */
    private static void emptySubject() {
        Set<Integer> failing = Set.of(Bench.ANY, Bench.NOT, Bench.SPAN, Bench.BREAK, Bench.BALANCED, Bench.FAIL);
        for (int kind = 0; kind <= 23; kind++) {
            for (boolean anchored : new boolean[] {true, false}) {
                Bench bench = new Bench();
                bench.word("");
                int asked = bench.node(kind, 0, 0);
                int want = kind == Bench.ABORT ? 2 : failing.contains(kind) ? 0 : 1;
                Check.due("kind " + kind + " of an empty subject", want, bench.mill.match(5, asked, anchored));
                Check.due("its end", want == 1 ? 0 : NONE, bench.mill.latest(1));
            }
        }
    }

    /** As before, but begun at n; FROM 0 and TAB 0 are behind there. */
    private static void endOfTheSubject() {
        Set<Integer> failing = Set.of(Bench.ANY, Bench.NOT, Bench.SPAN, Bench.BREAK, Bench.FROM, Bench.TAB,
                Bench.BALANCED, Bench.FAIL);
        for (int kind = 0; kind <= 23; kind++) {
            for (String text : new String[] {"a", "abc", ALL_A}) {
                Bench bench = Bench.with(text);
                bench.word("");
                int emptyOrZero = kind == Bench.VALUE ? 7 : 0;
                int atEnd = bench.row(bench.node(Bench.REST), bench.node(kind, emptyOrZero, 0));
                int want = kind == Bench.ABORT ? 2 : failing.contains(kind) ? 0 : 1;
                Check.due("kind " + kind + " at n", want, bench.mill.match(0, atEnd, true));
                Check.due("its end", want == 1 ? text.length() : NONE, bench.mill.latest(1));
            }
        }
    }

    private static void theSubjectIsAsItWasAtFirst() {
        Bench longer = Bench.with("a");
        longer.let(0, "");
        int place = longer.node(Bench.PLACE, 0);
        Check.due("longer since, n stays", "0 in 3", longer.match(longer.row(place, longer.node(Bench.LEN, 1)), false));
        Check.due("the variable is the place", "0", longer.text(0));
        Bench shorter = Bench.with("abcd");
        int now = shorter.node(Bench.NOW, shorter.node(Bench.LEN, 1), 0);
        int all = shorter.row(now, shorter.word("bcd"), shorter.node(Bench.BEFORE, 0));
        Check.due("shorter since, n stays", "1 0-4 in 6", shorter.match(all, true));
        Bench starts = Bench.with("abcd");
        int failing = starts.row(starts.node(Bench.NOW, starts.node(Bench.LEN, 1), 0), starts.node(Bench.FROM, 4));
        Check.due("at later starts too", "1 3-4 in 16", starts.match(failing, false));
        Check.due("the next match has the new text", "1 0-1 in 1", starts.match(starts.node(Bench.REST), false));
    }

    private static void eachVariableCanBeTheSubject() {
        for (int v = 0; v < 8; v++) {
            Bench bench = new Bench();
            bench.let(v, "abc");
            int rest = bench.node(Bench.REST);
            for (int other = 0; other < 8; other++) {
                int want = other == v ? 3 : 0;
                Check.due("variable " + other, "1 0-" + want + " in 1", bench.match(other, rest, true));
            }
        }
    }

    private static void eachOfItsAnswers() {
        for (boolean anchored : new boolean[] {true, false}) {
            Bench bench = Bench.with("ab");
            Check.due("ended well", 1, bench.mill.match(0, bench.word("a"), anchored));
            Check.due("failed everywhere", 0, bench.mill.match(0, bench.word("c"), anchored));
            Check.due("aborted", 2, bench.mill.match(0, bench.node(Bench.ABORT), anchored));
            Check.due("too many steps", 3, bench.mill.match(0, bench.node(Bench.LATER, 3), anchored));
            Check.due("no such node", NONE, bench.mill.match(0, 4, anchored));
            Check.due("no such variable", NONE, bench.mill.match(8, 0, anchored));
        }
    }

    private static void refused(int v, int node, boolean anchored) {
        String call = "match(" + v + ", " + node + ", " + anchored + ")";
        Unmoved.by(call, Unmoved::wellMatched, NONE, mill -> mill.match(v, node, anchored));
        Unmoved.by(call + " after none", Unmoved::neverMatched, NONE, mill -> mill.match(v, node, anchored));
        Unmoved.by(call + " after a failed one", Unmoved::failed, NONE, mill -> mill.match(v, node, anchored));
    }

    private static void refusesNoVariable() {
        for (int v : new int[] {-1, 8, 9, 64, 256, BIG, SMALL}) {
            refused(v, 2, false);
            refused(v, 2, true);
            refused(v, 4, false);
        }
    }

    private static void refusesNoNode() {
        for (int node : new int[] {-1, 5, 6, 63, 64, 256, BIG, SMALL}) {
            refused(0, node, false);
            refused(7, node, true);
            refused(8, node, false);
        }
        Unmoved.by("a node that is gone", bench -> {
            Unmoved.wellMatched(bench);
            bench.mill.clear();
        }, NONE, mill -> mill.match(0, 2, false));
        Unmoved.by("the 65th", Unmoved::fullOfNodes, NONE, mill -> mill.match(0, 64, false));
    }

    private static void aMatchLeavesNothingForTheNext() {
        Bench bench = Bench.with("abc");
        bench.let(3, "before");
        int keep = bench.node(Bench.KEEP, bench.node(Bench.LEN, 1), 3);
        int arb = bench.node(Bench.ARB);
        int fence = bench.node(Bench.FENCE);
        int[] tails = {bench.node(Bench.FAIL), bench.node(Bench.ABORT), bench.ofSteps(3000)};
        for (int tail : tails) {
            bench.match(bench.row(keep, arb, fence, tail), false);
            Check.due("a KEEP, a way back or a FENCE of another match", "0 in 4", bench.match(bench.word("x"), false));
            Check.due("the variable", "before", bench.text(3));
            Check.due("well after that", "1 1-2 in 2", bench.match(bench.word("b"), false));
            Check.due("the variable still", "before", bench.text(3));
        }
    }

    private static void startsCountTogether() {
        Bench bench = new Bench();
        int thousand = bench.row(bench.ofSteps(998), bench.node(Bench.FAIL));
        bench.let(0, "ab");
        Check.due("three starts of 1000", "0 in 3000", bench.match(thousand, false));
        bench.let(0, "abc");
        Check.due("a fourth", "3 in 3000", bench.match(thousand, false));
        bench.let(0, "ab");
        Check.due("the steps of another match do not count", "0 in 3000", bench.match(thousand, false));
        Check.due("anchored", "0 in 1000", bench.match(thousand, true));
    }

    /** Makes a pattern whose last step is taken in the way that is asked for. */
    private interface Tail {
        int of(Bench bench);
    }

    private static String lastStep(int last, int steps, Tail tail) {
        Bench bench = Bench.with("ab");
        return bench.match(bench.row(bench.ofSteps(last - 1 - steps), tail.of(bench)), true);
    }

    /** Of so many steps, it ends as is told if the last of them is the 3000th; not, one later. */
    private static void atTheLimit(String way, int steps, String want, Tail tail) {
        Check.due(way + ", the 3000th", want + " in 3000", lastStep(3000, steps, tail));
        Check.due(way + ", the 3001st", "3 in 3000", lastStep(3001, steps, tail));
    }

    private static void theLastStepByEachWay() {
        atTheLimit("the second of THEN", 1, "1 0-0", b -> b.node(Bench.LEN, 0));
        atTheLimit("the first of THEN", 2, "0", b -> b.row(b.node(Bench.FAIL), b.node(Bench.LEN, 0)));
        atTheLimit("the first of OR", 2, "1 0-0", b -> b.node(Bench.OR, b.node(Bench.LEN, 0), b.node(Bench.REST)));
        atTheLimit("the second of OR", 3, "1 0-2", b -> b.node(Bench.OR, b.node(Bench.FAIL), b.node(Bench.REST)));
        atTheLimit("MANY", 1, "1 0-0", b -> b.node(Bench.MANY, b.node(Bench.REST)));
        atTheLimit("the part of MANY", 4, "0", b -> b.row(b.node(Bench.MANY, b.node(Bench.FAIL)), b.node(Bench.FAIL)));
        atTheLimit("behind MANY anew", 6, "1 0-1", b -> b.row(b.node(Bench.MANY, b.node(Bench.LEN, 1)), b.node(Bench.FROM, 1)));
        atTheLimit("the part of KEEP", 2, "1 0-2", b -> b.node(Bench.KEEP, b.node(Bench.REST), 1));
        atTheLimit("the part of NOW", 2, "1 0-2", b -> b.node(Bench.NOW, b.node(Bench.REST), 1));
        atTheLimit("LATER", 2, "1 0-2", b -> b.node(Bench.LATER, b.node(Bench.REST)));
        Bench top = Bench.with("ab");
        Check.due("3000 of LATER and THEN alone", "1 0-0 in 3000", top.match(top.ofSteps(3000), true));
        Check.due("3001 of them", "3 in 3000", top.match(top.node(Bench.LATER, top.ofSteps(3000)), true));
    }

    private static void theLastStepThatAborts() {
        atTheLimit("ABORT", 1, "2", b -> b.node(Bench.ABORT));
        // THEN FENCE THEN, the many steps, and the FAIL that goes back into FENCE
        Bench bench = Bench.with("ab");
        int fence = bench.node(Bench.FENCE);
        int fail = bench.node(Bench.FAIL);
        int just = bench.row(fence, bench.ofSteps(2996), fail);
        Check.due("FENCE gone back into by the 3000th", "2 in 3000", bench.match(just, false));
        int beyond = bench.row(fence, bench.ofSteps(2997), fail);
        Check.due("FENCE, and the 3001st", "3 in 3000", bench.match(beyond, false));
    }

    private static void theLastStepThatFails() {
        atTheLimit("FAIL", 1, "0", b -> b.node(Bench.FAIL));
        atTheLimit("LATER without a node is one step", 1, "0", b -> b.node(Bench.LATER, 63));
        atTheLimit("WORD that fails", 1, "0", b -> b.word("x"));
    }

    private static void goingBackIsNoStep() {
        Bench bench = Bench.with(ALL_A);
        int arb = bench.node(Bench.ARB);
        int fail = bench.node(Bench.FAIL);
        Check.due("into ARB", "0 in 67", bench.match(bench.row(arb, fail), true));
        Check.due("into BALANCED", "0 in 66", bench.match(bench.row(bench.node(Bench.BALANCED), fail), true));
        Check.due("into KEEP and NOW", "0 in 69",
                bench.match(bench.row(bench.node(Bench.KEEP, bench.node(Bench.NOW, arb, 1), 2), fail), true));
        // THEN OR, and twice ARB with 65 FAILs
        Check.due("into OR, but for its second", "0 in 134",
                bench.match(bench.row(bench.node(Bench.OR, arb, arb), fail), true));
    }

    /** What variable 1 is when a pattern of so many steps stands behind as many as there is room for. */
    private static void setAtTheLimit(String way, int steps, String want, Tail tail) {
        for (int last : new int[] {3000, 3001}) {
            Bench bench = Bench.with("ab");
            bench.let(1, "before");
            bench.match(bench.row(bench.ofSteps(last - 1 - steps), tail.of(bench)), true);
            Check.due(way + ", last step " + last, last == 3000 ? want : "before", bench.text(1));
        }
    }

    private static void whatIsSetBeforeTooManySteps() {
        setAtTheLimit("PLACE", 1, "0", b -> b.node(Bench.PLACE, 1));
        setAtTheLimit("NOW", 2, "ab", b -> b.node(Bench.NOW, b.node(Bench.REST), 1));
        setAtTheLimit("KEEP", 2, "ab", b -> b.node(Bench.KEEP, b.node(Bench.REST), 1));
        setAtTheLimit("KEEP with more behind it", 4, "ab",
                b -> b.row(b.node(Bench.KEEP, b.node(Bench.REST), 1), b.node(Bench.LEN, 0)));
        Bench bench = Bench.with("ab");
        bench.let(1, "before");
        int most = bench.ofSteps(3000);
        bench.match(bench.row(bench.node(Bench.NOW, bench.node(Bench.REST), 1), most), true);
        Check.due("NOW stays", "ab", bench.text(1));
        bench.match(bench.row(bench.node(Bench.REST), bench.node(Bench.PLACE, 1), most), true);
        Check.due("PLACE stays", "2", bench.text(1));
    }

    private static void latestOfAMatchThatEndedWell() {
        for (int[] part : new int[][] {{0, 0}, {0, 64}, {1, 63}, {64, 64}}) {
            Bench bench = Bench.with(ALL_A);
            int node = bench.row(bench.node(Bench.FROM, part[0]), bench.node(Bench.TAB, part[1]));
            bench.mill.match(0, node, false);
            Check.due("from", part[0], bench.mill.latest(0));
            Check.due("to", part[1], bench.mill.latest(1));
            Check.due("steps", 2 * part[0] + 3, bench.mill.latest(2));
        }
    }

    private static void latestOfAMatchThatDidNot() {
        int[] kinds = {Bench.FAIL, Bench.ABORT, Bench.LATER};
        int[] steps = {4, 1, 3000};
        for (int i = 0; i < kinds.length; i++) {
            for (boolean wellBefore : new boolean[] {true, false}) {
                Bench bench = Bench.with("abc");
                int bad = bench.node(kinds[i], 0);
                if (wellBefore) {
                    bench.mill.match(0, bench.node(Bench.REST), false);
                }
                bench.mill.match(0, bad, false);
                Check.due("from, kind " + kinds[i], NONE, bench.mill.latest(0));
                Check.due("to, kind " + kinds[i], NONE, bench.mill.latest(1));
                Check.due("steps, kind " + kinds[i], steps[i], bench.mill.latest(2));
            }
        }
    }

    private static void latestBeforeAnyMatch() {
        for (int what = -1; what <= 3; what++) {
            int asked = what;
            Unmoved.by("latest(" + what + ")", Unmoved::neverMatched, NONE, mill -> mill.latest(asked));
        }
        Bench bench = new Bench();
        Unmoved.neverMatched(bench);
        bench.mill.match(8, 0, false);
        bench.mill.match(0, 5, false);
        bench.mill.replace(0);
        bench.mill.clear();
        for (int what = 0; what < 3; what++) {
            Check.due("a refused match is none", NONE, bench.mill.latest(what));
        }
    }

    private static void latestOfAnotherWhat() {
        for (int what : new int[] {-1, -2, 3, 4, 64, 256, BIG, SMALL}) {
            Unmoved.by("latest(" + what + ")", Unmoved::wellMatched, NONE, mill -> mill.latest(what));
            Unmoved.by("latest(" + what + ")", Unmoved::failed, NONE, mill -> mill.latest(what));
        }
    }

    private static void latestIsTheLatest() {
        Bench bench = Bench.with("abc");
        int c = bench.word("c");
        int rest = bench.node(Bench.REST);
        Check.due("the first", "1 2-3 in 3", bench.match(c, false));
        Check.due("the second", "1 0-3 in 1", bench.match(rest, false));
        Check.due("of another variable", "0 in 1", bench.match(5, c, false));
        Check.due("the first again", "1 2-3 in 3", bench.match(c, false));
        bench.let(0, "");
        bench.mill.clear();
        bench.slip("more");
        bench.node(Bench.WORD);
        Check.due("from stays", 2, bench.mill.latest(0));
        Check.due("to stays", 3, bench.mill.latest(1));
        Check.due("steps stay", 3, bench.mill.latest(2));
    }
}
