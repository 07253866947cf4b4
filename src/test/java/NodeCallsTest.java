/** Promises 6 to 8: node, clear, about. */
public final class NodeCallsTest {
    private static final int NONE = PatternMill.NONE;
    private static final int BIG = Integer.MAX_VALUE;
    private static final int SMALL = Integer.MIN_VALUE;

    public static void main(String[] args) {
        kinds();
        texts();
        numbers();
        nodesAndVariables();
        refusedNodesLeaveAll();
        full();
        clear();
        about();
        Check.end();
    }

    private static void about(Bench bench, int node, int kind, int a, int b, int signs) {
        Check.due("kind of " + node, kind, bench.mill.about(node, 0));
        Check.due("a of kind " + kind, a, bench.mill.about(node, 1));
        Check.due("b of kind " + kind, b, bench.mill.about(node, 2));
        Check.due("signs of kind " + kind, signs, bench.mill.about(node, 3));
    }

    private static void kinds() {
        for (int kind = 0; kind <= 23; kind++) {
            Bench bench = new Bench();
            bench.node(Bench.REST);
            bench.node(Bench.REST);
            bench.slip("xyz");
            Check.due("node of kind " + kind, 2, bench.node(kind, 1, 1));
            boolean hasA = kind >= 5 && kind <= 9 || kind >= 16;
            boolean hasB = kind >= 17 && kind <= 20;
            about(bench, 2, kind, hasA ? 1 : 0, hasB ? 1 : 0, kind <= 4 ? 3 : 0);
            Check.due("the slip after kind " + kind, kind <= 4 ? 1 : 4, bench.mill.sign(1));
        }
        Bench bench = new Bench();
        for (int kind : new int[] {-1, 24, 25, BIG, SMALL}) {
            Check.due("no such kind " + kind, NONE, bench.node(kind, 0, 0));
        }
        for (int kind : new int[] {0, 1, 2, 3, 4, 10, 11, 12, 13, 14, 15}) {
            int made = bench.node(kind, SMALL, BIG);
            about(bench, made, kind, 0, 0, 0);
        }
    }

    private static void texts() {
        Bench bench = new Bench();
        bench.slip("q".repeat(64));
        Check.due("a text of 64", 64, bench.mill.about(bench.node(Bench.WORD), 3));
        Check.due("a text of none", 0, bench.mill.about(bench.node(Bench.ANY), 3));
        bench.slip("ab");
        int word = bench.node(Bench.WORD);
        bench.let(0, "zzab");
        Check.due("the text is the node's own", "1 2-4 in 3", bench.match(word, false));
    }

    private static void numbers() {
        Bench bench = new Bench();
        for (int kind = 5; kind <= 9; kind++) {
            Check.due("below 0, kind " + kind, NONE, bench.node(kind, -1, 0));
            Check.due("far below 0, kind " + kind, NONE, bench.node(kind, SMALL, 0));
            about(bench, bench.node(kind, 0, 9), kind, 0, 0, 0);
            about(bench, bench.node(kind, BIG, -9), kind, BIG, 0, 0);
        }
    }

    private static void nodesAndVariables() {
        Bench bench = new Bench();
        bench.node(Bench.REST);
        for (int away : new int[] {-1, 1, 63, 64, BIG, SMALL}) {
            for (int kind : new int[] {16, 17, 18, 19, 20}) {
                Check.due("no node a, kind " + kind, NONE, bench.node(kind, away, 0));
            }
            Check.due("no node b, THEN", NONE, bench.node(Bench.THEN, 0, away));
            Check.due("no node b, OR", NONE, bench.node(Bench.OR, 0, away));
        }
        for (int away : new int[] {-1, 8, BIG, SMALL}) {
            Check.due("no variable b, KEEP", NONE, bench.node(Bench.KEEP, 0, away));
            Check.due("no variable b, NOW", NONE, bench.node(Bench.NOW, 0, away));
            Check.due("no variable a, PLACE", NONE, bench.node(Bench.PLACE, away, 0));
            Check.due("no variable a, VALUE", NONE, bench.node(Bench.VALUE, away, 0));
        }
        for (int away : new int[] {-1, 64, BIG, SMALL}) {
            Check.due("no number for LATER", NONE, bench.node(Bench.LATER, away, 0));
        }
        about(bench, bench.node(Bench.KEEP, 0, 7), 19, 0, 7, 0);
        about(bench, bench.node(Bench.NOW, 1, 0), 20, 1, 0, 0);
        about(bench, bench.node(Bench.PLACE, 7, 5), 21, 7, 0, 0);
        about(bench, bench.node(Bench.VALUE, 7, 5), 22, 7, 0, 0);
        about(bench, bench.node(Bench.LATER, 63, 5), 23, 63, 0, 0);
        about(bench, bench.node(Bench.MANY, 5, 99), 16, 5, 0, 0);
        about(bench, bench.node(Bench.THEN, 6, 1), 17, 6, 1, 0);
        about(bench, bench.node(Bench.OR, 1, 7), 18, 1, 7, 0);
        Check.due("a node is not there while it is made", NONE, bench.node(Bench.MANY, 9, 0));
    }

    private static void refusedNodesLeaveAll() {
        Bench bench = new Bench();
        bench.slip("ab");
        bench.node(24, 0, 0);
        bench.node(Bench.LEN, -1, 0);
        bench.node(Bench.MANY, 0, 0);
        Check.due("the slip after refused nodes", 3, bench.mill.sign('c'));
        Check.due("the number after refused nodes", 0, bench.node(Bench.WORD));
    }

    private static void full() {
        Bench bench = new Bench();
        for (int i = 0; i < 64; i++) {
            Check.due("node " + i, i, bench.node(Bench.REST));
        }
        bench.slip("ab");
        Check.due("node 64", NONE, bench.node(Bench.WORD));
        Check.due("the slip of a node too many", 3, bench.mill.sign('c'));
        Check.due("about 63", 10, bench.mill.about(63, 0));
        Check.due("about 64", NONE, bench.mill.about(64, 0));
    }

    private static void clear() {
        Bench bench = Bench.with("ab");
        int word = bench.word("b");
        bench.match(word, false);
        bench.slip("xy");
        bench.mill.clear();
        Check.due("about after clear", NONE, bench.mill.about(0, 0));
        Check.due("match after clear", NONE, bench.mill.match(0, 0, false));
        Check.due("MANY after clear", NONE, bench.node(Bench.MANY, 0));
        Check.due("latest stays", 1, bench.mill.latest(0));
        Check.due("the variable stays", "ab", bench.text(0));
        Check.due("the slip stays", 3, bench.mill.sign('z'));
        Check.due("LATER finds no old node", "0 in 3", bench.match(bench.node(Bench.LATER, 1), false));
        bench.mill.clear();
        bench.mill.clear();
        for (int i = 0; i < 64; i++) {
            Check.due("anew " + i, i, bench.node(Bench.LEN, i));
        }
        bench.mill.clear();
        about(bench, bench.node(Bench.REST, 5, 5), 10, 0, 0, 0);
    }

    private static void about() {
        Bench bench = new Bench();
        bench.word("abc");
        for (int what : new int[] {-1, 4, 5, BIG, SMALL}) {
            Check.due("about what " + what, NONE, bench.mill.about(0, what));
        }
        for (int node : new int[] {-1, 1, 64, BIG, SMALL}) {
            for (int what = 0; what < 4; what++) {
                Check.due("about no node " + node, NONE, bench.mill.about(node, what));
            }
        }
        bench.mill.clear();
        bench.node(Bench.REST);
        Check.due("no text of an old node", 0, bench.mill.about(0, 3));
    }
}
