/** A PatternMill that fails the test which asks it for more than the 512 calls of the document. */
final class Mill {
    private static final int MOST_CALLS = 512;

    private final PatternMill inside = new PatternMill();
    private int calls = 0;

    private PatternMill called() {
        calls++;
        if (calls > MOST_CALLS) {
            throw new IllegalStateException("what call 513 answers is free: nothing to test there");
        }
        return inside;
    }

    int sign(int s) {
        return called().sign(s);
    }

    boolean let(int v) {
        return called().let(v);
    }

    int value(int v, int i) {
        return called().value(v, i);
    }

    int length(int v) {
        return called().length(v);
    }

    int node(int kind, int a, int b) {
        return called().node(kind, a, b);
    }

    void clear() {
        called().clear();
    }

    int about(int node, int what) {
        return called().about(node, what);
    }

    int match(int v, int node, boolean anchored) {
        return called().match(v, node, anchored);
    }

    int latest(int what) {
        return called().latest(what);
    }

    boolean replace(int v) {
        return called().replace(v);
    }
}
