/** That a call which is refused does nothing: what later calls show is as it is without that call. */
final class Unmoved {
    /** Lays out a new mill, in the same way each time. */
    interface Layout {
        void lay(Bench bench);
    }

    /** The call that is refused: its answer, true as 1. */
    interface Call {
        int answer(Mill mill);
    }

    private interface Look {
        String see(Bench bench);
    }

    private static final int NONE = PatternMill.NONE;

    /** Each has a mill of its own, as some of them change it and all together need too many calls. */
    private static final Look[] LOOKS = {
        bench -> texts(bench, 0, 4),
        bench -> texts(bench, 4, 8),
        Unmoved::nodes,
        Unmoved::matches,
        Unmoved::latest,
        Unmoved::slip,
        Unmoved::slipAsWord,
        Unmoved::nextNode,
        Unmoved::replaced,
    };

    private Unmoved() {
    }

    static void by(String what, Layout layout, int want, Call call) {
        for (Look look : LOOKS) {
            Bench without = new Bench();
            layout.lay(without);
            Bench with = new Bench();
            layout.lay(with);
            Check.due(what, want, call.answer(with.mill));
            Check.due(what + ", and nothing happens", look.see(without), look.see(with));
        }
    }

    /** Texts, nodes of many kinds and a match that ended well, with signs on the slip. */
    static void wellMatched(Bench bench) {
        fiveNodes(bench);
        bench.mill.match(0, 2, false);
        bench.slip("slip");
    }

    static void neverMatched(Bench bench) {
        fiveNodes(bench);
        bench.slip("slip");
    }

    static void failed(Bench bench) {
        fiveNodes(bench);
        bench.mill.match(0, 2, false);
        bench.mill.match(0, 4, false);
        bench.slip("slip");
    }

    static void aborted(Bench bench) {
        wellMatched(bench);
        bench.mill.match(0, bench.node(Bench.ABORT), false);
    }

    static void outOfSteps(Bench bench) {
        wellMatched(bench);
        bench.mill.match(0, bench.node(Bench.LATER, 5), false);
    }

    static void fullSlip(Bench bench) {
        wellMatched(bench);
        bench.slip("f".repeat(60));
    }

    static void fullOfNodes(Bench bench) {
        wellMatched(bench);
        for (int i = 5; i < 64; i++) {
            bench.node(Bench.LEN, i);
        }
    }

    private static void fiveNodes(Bench bench) {
        bench.let(0, "one two");
        bench.let(1, "kept");
        bench.let(7, "last");
        bench.word("two");
        bench.leaf(Bench.SPAN, "wt");
        bench.node(Bench.KEEP, 1, 2);
        bench.node(Bench.OR, 0, 2);
        bench.node(Bench.FAIL);
    }

    private static String texts(Bench bench, int from, int to) {
        StringBuilder seen = new StringBuilder();
        for (int v = from; v < to; v++) {
            seen.append(bench.mill.length(v)).append(':').append(bench.text(v)).append(' ');
        }
        return seen.toString();
    }

    private static String nodes(Bench bench) {
        StringBuilder seen = new StringBuilder();
        for (int node = 0; bench.mill.about(node, 0) != NONE; node++) {
            for (int what = 0; what < 4; what++) {
                seen.append(bench.mill.about(node, what)).append(' ');
            }
        }
        return seen.toString();
    }

    private static String matches(Bench bench) {
        StringBuilder seen = new StringBuilder();
        for (int node = 0; bench.mill.about(node, 0) != NONE && node < 32; node++) {
            seen.append(bench.match(node, false)).append(", ");
        }
        return seen.toString();
    }

    private static String latest(Bench bench) {
        return bench.mill.latest(0) + " " + bench.mill.latest(1) + " " + bench.mill.latest(2) + " " + bench.mill.latest(3);
    }

    private static String slip(Bench bench) {
        return bench.mill.sign('!') + " " + bench.mill.let(3) + " " + bench.text(3);
    }

    private static String slipAsWord(Bench bench) {
        int word = bench.node(Bench.WORD);
        return word + " " + bench.mill.about(word, 3);
    }

    private static String nextNode(Bench bench) {
        return bench.node(Bench.REST) + " " + bench.node(Bench.LATER, 63) + " " + bench.node(Bench.MANY, 5);
    }

    private static String replaced(Bench bench) {
        return bench.mill.replace(0) + " " + bench.text(0) + " " + bench.mill.sign('!');
    }
}
