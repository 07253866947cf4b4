/** The edges of promises 6 to 8, sentence by sentence: node, clear, about. */
public final class NodeEdgesTest {
    private static final int NONE = PatternMill.NONE;
    private static final int BIG = Integer.MAX_VALUE;
    private static final int SMALL = Integer.MIN_VALUE;
    private static final int[] NO_VARIABLES = {-1, 8, 9, 64, 256, BIG, SMALL};
    /** The layouts here have the nodes 0 .. 4. */
    private static final int[] NO_NODES = {-1, 5, 6, 63, 64, 256, BIG, SMALL};

    public static void main(String[] args) {
        numbersGoUpFromZero();
        textKindsTakeTheSlip();
        textKindsTakeTheEmptyAndTheFullSlip();
        otherKindsLeaveTheSlip();
        theTextIsTheNodesOwn();
        numbersNotBelowZero();
        nodesMustBeThere();
        aNodeIsNotItsOwnPart();
        variablesMustBeThere();
        laterTakesNumbersUpTo63();
        allElseDoesNotMatter();
        noSuchKind();
        thereAreSixtyFour();
        clearTakesAllNodes();
        clearLeavesAllElse();
        clearOfNothing();
        clearMakesRoomForSixtyFour();
        oldNodesLeaveNoTrace();
        aboutIsZeroWhereItDoesNotMatter();
        aboutTheText();
        aboutNoNode();
        aboutAnotherWhat();
        Check.end();
    }

    private static void refused(String what, int kind, int a, int b) {
        String call = what + ": node(" + kind + ", " + a + ", " + b + ")";
        Unmoved.by(call, Unmoved::wellMatched, NONE, mill -> mill.node(kind, a, b));
    }

    private static void taken(String what, int kind, int a, int b) {
        Bench bench = new Bench();
        Unmoved.wellMatched(bench);
        Check.due(what + ": node(" + kind + ", " + a + ", " + b + ")", 5, bench.node(kind, a, b));
        Check.due(what + ": its kind", kind, bench.mill.about(5, 0));
        Check.due(what + ": its a", a, bench.mill.about(5, 1));
        boolean hasB = kind >= 17 && kind <= 20;
        Check.due(what + ": its b", hasB ? b : 0, bench.mill.about(5, 2));
    }

    private static void numbersGoUpFromZero() {
        Bench bench = new Bench();
        for (int i = 0; i < 64; i++) {
            Check.due("number " + i, i, bench.node(Bench.FAIL));
            Check.due("a refused one takes no number", NONE, bench.node(Bench.LEN, -1));
        }
    }

    private static void textKindsTakeTheSlip() {
        for (int kind = 0; kind <= 4; kind++) {
            Bench bench = new Bench();
            bench.slip("abc");
            Check.due("kind " + kind, 0, bench.node(kind));
            Check.due("its text", 3, bench.mill.about(0, 3));
            Check.due("the next one has none of it", 0, bench.mill.about(bench.node(kind), 3));
            Check.due("the slip is empty then", 1, bench.mill.sign('x'));
            bench.mill.let(0);
            Check.due("but for what comes", "x", bench.text(0));
        }
    }

    private static void textKindsTakeTheEmptyAndTheFullSlip() {
        for (int kind = 0; kind <= 4; kind++) {
            for (int signs : new int[] {0, 1, 63, 64}) {
                Bench bench = new Bench();
                bench.slip("s".repeat(signs));
                Check.due("kind " + kind + " with " + signs, 0, bench.node(kind));
                Check.due("so many signs", signs, bench.mill.about(0, 3));
                Check.due("room again", 1, bench.mill.sign('x'));
            }
        }
    }

    private static void otherKindsLeaveTheSlip() {
        for (int kind = 5; kind <= 23; kind++) {
            Bench bench = new Bench();
            bench.node(Bench.FAIL);
            bench.slip("abc");
            Check.due("kind " + kind, 1, bench.node(kind, 0, 0));
            Check.due("without a text", 0, bench.mill.about(1, 3));
            bench.mill.let(0);
            Check.due("the slip after kind " + kind, "abc", bench.text(0));
        }
    }

    private static void theTextIsTheNodesOwn() {
        Bench bench = Bench.with("abc");
        int word = bench.word("abc");
        bench.slip("xyz");
        Check.due("other signs on the slip", "1 0-3 in 1", bench.match(word, true));
        bench.let(1, "abc");
        bench.word("qqq");
        bench.mill.let(1);
        Check.due("other texts", "1 0-3 in 1", bench.match(word, true));
    }

    private static void numbersNotBelowZero() {
        for (int kind = 5; kind <= 9; kind++) {
            refused("below 0", kind, -1, 0);
            refused("far below 0", kind, SMALL, 0);
            refused("below 0, and b above", kind, -64, 5);
            taken("just 0", kind, 0, 0);
            taken("64", kind, 64, 0);
            taken("beyond every text", kind, 65, 0);
            taken("very large", kind, BIG, 0);
        }
    }

    private static void nodesMustBeThere() {
        for (int away : NO_NODES) {
            refused("no node a", Bench.MANY, away, 0);
            refused("no node a", Bench.KEEP, away, 0);
            refused("no node a", Bench.NOW, away, 0);
            for (int kind = Bench.THEN; kind <= Bench.OR; kind++) {
                refused("no node a", kind, away, 0);
                refused("no node b", kind, 0, away);
                refused("neither", kind, away, away);
            }
        }
        for (int kind = Bench.MANY; kind <= Bench.NOW; kind++) {
            taken("the first node", kind, 0, 0);
            taken("the last node", kind, 4, 4);
        }
        taken("one node twice", Bench.THEN, 3, 3);
    }

    private static void aNodeIsNotItsOwnPart() {
        for (int kind = Bench.MANY; kind <= Bench.NOW; kind++) {
            refused("the number that it would have", kind, 5, 0);
        }
        taken("but by LATER", Bench.LATER, 5, 0);
    }

    private static void variablesMustBeThere() {
        for (int v : NO_VARIABLES) {
            refused("no variable b", Bench.KEEP, 0, v);
            refused("no variable b", Bench.NOW, 0, v);
            refused("no variable a", Bench.PLACE, v, 0);
            refused("no variable a", Bench.VALUE, v, 0);
        }
        refused("neither node nor variable", Bench.KEEP, 5, 8);
        for (int v : new int[] {0, 7}) {
            taken("variable b", Bench.KEEP, 0, v);
            taken("variable b", Bench.NOW, 0, v);
            taken("variable a", Bench.PLACE, v, 0);
            taken("variable a", Bench.VALUE, v, 0);
        }
    }

    private static void laterTakesNumbersUpTo63() {
        for (int away : new int[] {-1, 64, 65, 256, BIG, SMALL}) {
            refused("no such number", Bench.LATER, away, 0);
        }
        taken("the first number", Bench.LATER, 0, 0);
        taken("a node that is not there yet", Bench.LATER, 6, 0);
        taken("the last number", Bench.LATER, 63, 0);
    }

    private static void madeWithZeros(int kind, int a, int b, int keptA) {
        Bench bench = new Bench();
        Unmoved.wellMatched(bench);
        Check.due("node(" + kind + ", " + a + ", " + b + ")", 5, bench.node(kind, a, b));
        Check.due("a of kind " + kind, keptA, bench.mill.about(5, 1));
        Check.due("b of kind " + kind, 0, bench.mill.about(5, 2));
    }

    private static void allElseDoesNotMatter() {
        for (int odd : new int[] {-1, 8, 63, 64, BIG, SMALL}) {
            for (int kind : new int[] {0, 1, 2, 3, 4, 10, 11, 12, 13, 14, 15}) {
                madeWithZeros(kind, odd, odd, 0);
            }
            for (int kind : new int[] {5, 6, 7, 8, 9, 16, 21, 22, 23}) {
                madeWithZeros(kind, 3, odd, 3);
            }
        }
    }

    private static void noSuchKind() {
        for (int kind : new int[] {-1, -2, 24, 25, 32, 64, 255, 256, BIG, SMALL}) {
            refused("no such kind", kind, 0, 0);
            refused("no such kind", kind, -1, -1);
        }
        taken("the last kind", 23, 0, 0);
        madeWithZeros(0, 0, 0, 0);
    }

    private static void thereAreSixtyFour() {
        for (int kind = 0; kind <= 23; kind++) {
            int asked = kind;
            Unmoved.by("the 65th, of kind " + kind, Unmoved::fullOfNodes, NONE, mill -> mill.node(asked, 0, 0));
        }
        Bench bench = new Bench();
        Unmoved.fullOfNodes(bench);
        Check.due("the 64th is there", Bench.LEN, bench.mill.about(63, 0));
        Check.due("and can be matched", "0 in 8", bench.match(63, false));
        Check.due("a 65th is not", NONE, bench.mill.match(0, 64, false));
    }

    private static void clearTakesAllNodes() {
        Bench bench = new Bench();
        Unmoved.fullOfNodes(bench);
        bench.mill.clear();
        for (int node = 0; node < 64; node++) {
            Check.due("about(" + node + ", 0)", NONE, bench.mill.about(node, 0));
            Check.due("match with " + node, NONE, bench.mill.match(0, node, false));
        }
        for (int kind = Bench.MANY; kind <= Bench.NOW; kind++) {
            Check.due("no part for kind " + kind, NONE, bench.node(kind, 0, 0));
        }
        Check.due("the first number again", 0, bench.node(Bench.FAIL));
        Check.due("that one is there", Bench.FAIL, bench.mill.about(0, 0));
        Check.due("the next is not", NONE, bench.mill.about(1, 0));
    }

    private static void clearLeavesAllElse() {
        Bench bench = new Bench();
        Unmoved.wellMatched(bench);
        bench.mill.clear();
        Check.due("from", 4, bench.mill.latest(0));
        Check.due("to", 6, bench.mill.latest(1));
        Check.due("steps", 10, bench.mill.latest(2));
        Check.due("a variable", "one two", bench.text(0));
        Check.due("a kept variable", "tw", bench.text(2));
        Check.due("replace", true, bench.mill.replace(0));
        Check.due("the slip", "one slipo", bench.text(0));
    }

    private static void clearOfNothing() {
        Bench bench = new Bench();
        bench.mill.clear();
        Check.due("no node", NONE, bench.mill.about(0, 0));
        bench.mill.clear();
        Check.due("the first number", 0, bench.node(Bench.FAIL));
        bench.mill.clear();
        bench.mill.clear();
        Check.due("the first number once more", 0, bench.node(Bench.REST));
        Check.due("its kind", Bench.REST, bench.mill.about(0, 0));
    }

    private static void clearMakesRoomForSixtyFour() {
        Bench bench = new Bench();
        Unmoved.fullOfNodes(bench);
        bench.mill.clear();
        for (int i = 0; i < 64; i++) {
            Check.due("number " + i + " again", i, bench.node(Bench.FENCE));
        }
        Check.due("the 65th", NONE, bench.node(Bench.FENCE));
        Check.due("the last one's kind", Bench.FENCE, bench.mill.about(63, 0));
    }

    private static void oldNodesLeaveNoTrace() {
        Bench bench = Bench.with("ab");
        bench.word("a");
        bench.node(Bench.THEN, 0, 0);
        bench.mill.clear();
        bench.node(Bench.REST);
        Check.due("no text of the old node", 0, bench.mill.about(0, 3));
        bench.node(Bench.WORD, 9, 9);
        Check.due("no a of the old node", 0, bench.mill.about(1, 1));
        Check.due("no text but its own", "1 0-0 in 1", bench.match(1, true));
        bench.mill.clear();
        bench.node(Bench.LATER, 1);
        Check.due("LATER of an old number fails", "0 in 3", bench.match(0, false));
        bench.word("b");
        Check.due("LATER finds the new node there", "1 1-2 in 4", bench.match(0, false));
    }

    private static void aboutIsZeroWhereItDoesNotMatter() {
        for (int kind = 0; kind <= 23; kind++) {
            Bench bench = new Bench();
            for (int i = 0; i < 7; i++) {
                bench.node(Bench.FAIL);
            }
            bench.slip("xyz");
            bench.node(kind, 6, 5);
            Check.due("kind", kind, bench.mill.about(7, 0));
            Check.due("a of kind " + kind, kind >= 5 && kind <= 9 || kind >= 16 ? 6 : 0, bench.mill.about(7, 1));
            Check.due("b of kind " + kind, kind >= 17 && kind <= 20 ? 5 : 0, bench.mill.about(7, 2));
            Check.due("signs of kind " + kind, kind <= 4 ? 3 : 0, bench.mill.about(7, 3));
        }
    }

    private static void aboutTheText() {
        for (int signs : new int[] {0, 1, 64}) {
            Bench bench = new Bench();
            int set = bench.leaf(Bench.ANY, "s".repeat(signs));
            bench.slip("more");
            Check.due("signs of a text", signs, bench.mill.about(set, 3));
        }
        Bench bench = new Bench();
        bench.let(3, "text");
        Check.due("VALUE has no text of its own", 0, bench.mill.about(bench.node(Bench.VALUE, 3), 3));
        bench.leaf(Bench.ANY, "ab");
        Check.due("nor has LATER", 0, bench.mill.about(bench.node(Bench.LATER, 1), 3));
    }

    private static void aboutNoNode() {
        for (int node : NO_NODES) {
            for (int what : new int[] {0, 1, 2, 3, -1, 4}) {
                String call = "about(" + node + ", " + what + ")";
                Unmoved.by(call, Unmoved::wellMatched, NONE, mill -> mill.about(node, what));
            }
        }
    }

    private static void aboutAnotherWhat() {
        for (int what : new int[] {-1, -2, 4, 5, 64, 256, BIG, SMALL}) {
            for (int node : new int[] {0, 4}) {
                String call = "about(" + node + ", " + what + ")";
                Unmoved.by(call, Unmoved::wellMatched, NONE, mill -> mill.about(node, what));
            }
        }
    }
}
