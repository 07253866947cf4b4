/** A mill with short ways to lay texts and patterns into it. */
final class Bench {
    static final int WORD = 0, ANY = 1, NOT = 2, SPAN = 3, BREAK = 4, LEN = 5, FROM = 6, BEFORE = 7;
    static final int TAB = 8, BACK = 9, REST = 10, ARB = 11, BALANCED = 12, FAIL = 13, FENCE = 14;
    static final int ABORT = 15, MANY = 16, THEN = 17, OR = 18, KEEP = 19, NOW = 20, PLACE = 21;
    static final int VALUE = 22, LATER = 23;
    static final int NONE = PatternMill.NONE;

    final Mill mill = new Mill();

    static Bench with(String text) {
        Bench bench = new Bench();
        bench.let(0, text);
        return bench;
    }

    void slip(String text) {
        for (int i = 0; i < text.length(); i++) {
            mill.sign(text.charAt(i));
        }
    }

    boolean let(int v, String text) {
        slip(text);
        return mill.let(v);
    }

    String text(int v) {
        StringBuilder text = new StringBuilder();
        int length = mill.length(v);
        for (int i = 0; i < length; i++) {
            text.append((char) mill.value(v, i));
        }
        return text.toString();
    }

    int leaf(int kind, String text) {
        slip(text);
        return mill.node(kind, 0, 0);
    }

    int word(String text) {
        return leaf(WORD, text);
    }

    int node(int kind) {
        return mill.node(kind, 0, 0);
    }

    int node(int kind, int a) {
        return mill.node(kind, a, 0);
    }

    int node(int kind, int a, int b) {
        return mill.node(kind, a, b);
    }

    /** The nodes one behind the other. */
    int row(int... nodes) {
        int all = nodes[nodes.length - 1];
        for (int i = nodes.length - 2; i >= 0; i--) {
            all = node(THEN, nodes[i], all);
        }
        return all;
    }

    /** The outcome of a match of variable 0, and with 1 where it went: "1 from-to", then the steps. */
    String match(int node, boolean anchored) {
        return match(0, node, anchored);
    }

    String match(int v, int node, boolean anchored) {
        int outcome = mill.match(v, node, anchored);
        String way = mill.latest(0) == NONE && mill.latest(1) == NONE ? "" : " " + mill.latest(0) + "-" + mill.latest(1);
        return outcome + way + " in " + mill.latest(2);
    }

    /** A pattern that succeeds where it is begun, in just so many steps. */
    int ofSteps(int steps) {
        if (steps == 1) {
            return node(LEN, 0);
        }
        if (steps % 2 == 0) {
            return node(LATER, ofSteps(steps - 1));
        }
        int half = ofSteps((steps - 1) / 2);
        return node(THEN, half, half);
    }

    static void placesDue(String want, String text, int c, int kind, String set, int a) {
        String what = "kind " + kind + " '" + set + "' " + a + " at " + c + " of '" + text + "'";
        Check.due(what, want, places(text, c, kind, set, a));
    }

    /**
     * The places at which a node succeeds, begun at c, in order. FROM p behind it sends it back
     * until it is at p, and is a step each time: so the steps tell the how manieth place p is.
     */
    private static String places(String text, int c, int kind, String set, int a) {
        String[] inOrder = new String[text.length() + 2];
        int found = 0;
        for (int p = 0; p <= text.length(); p++) {
            Bench bench = with(text);
            if (bench.matchBehind(c, kind, set, a, bench.node(FROM, p)) == 1) {
                inOrder[bench.mill.latest(2) - 4] = "" + p;
                found++;
            }
        }
        StringBuilder places = new StringBuilder();
        for (String place : inOrder) {
            if (place != null) {
                places.append(places.length() == 0 ? "" : " ").append(place);
            }
        }
        int all = successes(text, c, kind, set, a);
        return places + (all == found ? "" : ", but it succeeds " + all + " times");
    }

    /** How often a node succeeds if it is gone back into until it fails. */
    private static int successes(String text, int c, int kind, String set, int a) {
        Bench bench = with(text);
        bench.matchBehind(c, kind, set, a, bench.node(FAIL));
        return bench.mill.latest(2) - 4;
    }

    private int matchBehind(int c, int kind, String set, int a, int behind) {
        slip(set);
        int asked = node(kind, a, 0);
        return mill.match(0, row(node(TAB, c), asked, behind), true);
    }
}
