/** Patterns that are laid against texts, going back where they must. */
public final class PatternMill {
    public static final int NONE = -1;

    private static final int MOST_SIGNS = 64;
    private static final int MOST_NODES = 64;
    private static final int VARIABLES = 8;
    private static final int MOST_STEPS = 3000;

    /** Far above the five turns a step that a search can need at most. */
    private static final int MOST_TURNS = 1000000;

    private static final int SIGN_BITS = 255;
    private static final int OPENING = 40;
    private static final int CLOSING = 41;
    private static final int ZERO = 48;

    private static final int WORD = 0;
    private static final int ANY = 1;
    private static final int NOT = 2;
    private static final int SPAN = 3;
    private static final int BREAK = 4;
    private static final int LEN = 5;
    private static final int FROM = 6;
    private static final int BEFORE = 7;
    private static final int TAB = 8;
    private static final int BACK = 9;
    private static final int REST = 10;
    private static final int ARB = 11;
    private static final int BALANCED = 12;
    private static final int FENCE = 14;
    private static final int ABORT = 15;
    private static final int MANY = 16;
    private static final int THEN = 17;
    private static final int OR = 18;
    private static final int KEEP = 19;
    private static final int NOW = 20;
    private static final int PLACE = 21;
    private static final int VALUE = 22;
    private static final int LATER = 23;

    private static final int FAILED = 0;
    private static final int ENDED_WELL = 1;
    private static final int ABORTED = 2;
    private static final int TOO_MANY_STEPS = 3;
    private static final int UNDECIDED = 4;

    private final Text slip;
    private final Stock stock;
    private final Search search;
    private int latestFrom;
    private int latestTo;
    private int latestSteps;

    public PatternMill() {
        slip = new Text();
        stock = new Stock();
        search = new Search(stock);
        latestFrom = NONE;
        latestTo = NONE;
        latestSteps = NONE;
    }

    public int sign(int s) {
        return slip.add(s & SIGN_BITS) ? slip.size : NONE;
    }

    public boolean let(int v) {
        Text variable = stock.variable(v);
        if (variable == null) {
            return false;
        }
        variable.become(slip);
        slip.size = 0;
        return true;
    }

    public int value(int v, int i) {
        Text variable = stock.variable(v);
        return variable == null ? NONE : variable.at(i);
    }

    public int length(int v) {
        Text variable = stock.variable(v);
        return variable == null ? NONE : variable.size;
    }

    public int node(int kind, int a, int b) {
        return stock.make(kind, a, b, slip);
    }

    public void clear() {
        stock.nodeCount = 0;
    }

    public int about(int node, int what) {
        Node asked = stock.nodeOf(node);
        if (asked == null) {
            return NONE;
        }
        switch (what) {
            case 0:
                return asked.kind;
            case 1:
                return asked.a;
            case 2:
                return asked.b;
            case 3:
                return asked.text.size;
            default:
                return NONE;
        }
    }

    public int match(int v, int node, boolean anchored) {
        Text variable = stock.variable(v);
        Node top = stock.nodeOf(node);
        if (variable == null || top == null) {
            return NONE;
        }
        int outcome = search.run(variable, top, anchored);
        latestFrom = outcome == ENDED_WELL ? search.start : NONE;
        latestTo = outcome == ENDED_WELL ? search.place : NONE;
        latestSteps = search.steps.count;
        return outcome;
    }

    public int latest(int what) {
        switch (what) {
            case 0:
                return latestFrom;
            case 1:
                return latestTo;
            case 2:
                return latestSteps;
            default:
                return NONE;
        }
    }

    public boolean replace(int v) {
        Text variable = stock.variable(v);
        if (variable == null || latestFrom == NONE || !variable.exchange(latestFrom, latestTo, slip)) {
            return false;
        }
        slip.size = 0;
        return true;
    }

    /** A row of signs; also a set of signs, where a node takes it so. */
    private static final class Text {
        final int[] signs = new int[MOST_SIGNS];
        int size = 0;

        boolean add(int s) {
            if (size >= MOST_SIGNS) {
                return false;
            }
            signs[size] = s;
            size++;
            return true;
        }

        int at(int i) {
            return i >= 0 && i < size ? signs[i] : NONE;
        }

        void become(Text other) {
            becomePart(other, 0, other.size);
        }

        void becomePart(Text other, int from, int to) {
            if (from < 0 || from > to || to > other.size) {
                return;
            }
            System.arraycopy(other.signs, from, signs, 0, to - from);
            size = to - from;
        }

        /** Two digits are enough: no place is beyond 64. */
        void becomeDigits(int number) {
            size = number >= 10 ? 2 : 1;
            signs[0] = ZERO + number / 10;
            signs[size - 1] = ZERO + number % 10;
        }

        /** False, and nothing happens, if the part is not there or too many signs would be. */
        boolean exchange(int from, int to, Text inside) {
            int rest = size - to;
            if (from < 0 || from > to || rest < 0 || from + inside.size + rest > MOST_SIGNS) {
                return false;
            }
            System.arraycopy(signs, to, signs, from + inside.size, rest);
            System.arraycopy(inside.signs, 0, signs, from, inside.size);
            size = from + inside.size + rest;
            return true;
        }

        boolean holds(int s) {
            for (int i = 0; i < size; i++) {
                if (signs[i] == s) {
                    return true;
                }
            }
            return false;
        }

        int behindWord(Text word, int c) {
            if (word.size > size - c) {
                return NONE;
            }
            for (int i = 0; i < word.size; i++) {
                if (at(c + i) != word.at(i)) {
                    return NONE;
                }
            }
            return c + word.size;
        }

        int behindSign(Text set, boolean inSet, int c) {
            return c < size && set.holds(at(c)) == inSet ? c + 1 : NONE;
        }

        int behindRun(Text set, int c) {
            int end = c;
            while (end < size && set.holds(signs[end])) {
                end++;
            }
            return end > c ? end : NONE;
        }

        int beforeFirst(Text set, int c) {
            for (int i = c; i < size; i++) {
                if (set.holds(signs[i])) {
                    return i;
                }
            }
            return NONE;
        }

        /** As the brackets are even at each such place, the next one is found from there alone. */
        int behindBalanced(int c) {
            int open = 0;
            for (int i = c; i < size; i++) {
                if (at(i) == OPENING) {
                    open++;
                } else if (at(i) == CLOSING) {
                    open--;
                }
                if (open < 0) {
                    return NONE;
                }
                if (open == 0) {
                    return i + 1;
                }
            }
            return NONE;
        }
    }

    /** A pattern; its parts are numbers, as a LATER may name a node that is not there yet. */
    private static final class Node {
        final Text text = new Text();
        int kind = 0;
        int a = 0;
        int b = 0;
    }

    /** The variables and the nodes, all made once and used again. */
    private static final class Stock {
        final Text[] variables = new Text[VARIABLES];
        final Node[] nodes = new Node[MOST_NODES];
        int nodeCount = 0;

        Stock() {
            for (int v = 0; v < VARIABLES; v++) {
                variables[v] = new Text();
            }
            for (int i = 0; i < MOST_NODES; i++) {
                nodes[i] = new Node();
            }
        }

        Text variable(int v) {
            return v >= 0 && v < VARIABLES ? variables[v] : null;
        }

        Node nodeOf(int i) {
            return i >= 0 && i < nodeCount ? nodes[i] : null;
        }

        /** Whether all that a node of the kind needs is there. */
        private boolean hasParts(int kind, int a, int b) {
            switch (kind) {
                case LEN:
                case FROM:
                case BEFORE:
                case TAB:
                case BACK:
                    return a >= 0;
                case MANY:
                    return nodeOf(a) != null;
                case THEN:
                case OR:
                    return nodeOf(a) != null && nodeOf(b) != null;
                case KEEP:
                case NOW:
                    return nodeOf(a) != null && variable(b) != null;
                case PLACE:
                case VALUE:
                    return variable(a) != null;
                case LATER:
                    return a >= 0 && a < MOST_NODES;
                default:
                    return true;
            }
        }

        int make(int kind, int a, int b, Text slip) {
            if (nodeCount >= MOST_NODES || kind < WORD || kind > LATER || !hasParts(kind, a, b)) {
                return NONE;
            }
            Node made = nodes[nodeCount];
            made.kind = kind;
            made.a = usesA(kind) ? a : 0;
            made.b = usesB(kind) ? b : 0;
            made.text.size = 0;
            if (kind <= BREAK) {
                made.text.become(slip);
                slip.size = 0;
            }
            nodeCount++;
            return nodeCount - 1;
        }

        private static boolean usesA(int kind) {
            return kind >= LEN && kind <= BACK || kind >= MANY;
        }

        private static boolean usesB(int kind) {
            return kind >= THEN && kind <= NOW;
        }
    }

    /** The nodes that a match has begun, by the numbers of their steps, 1 .. 3000. */
    private static final class Steps {
        final Node[] begun = new Node[MOST_STEPS + 1];
        final int[] from = new int[MOST_STEPS + 1];
        /** Where an ARB, BALANCED or KEEP has succeeded last. */
        final int[] to = new int[MOST_STEPS + 1];
        /** The earlier step that goes on where this one succeeds; 0 is the match itself. */
        final int[] waiter = new int[MOST_STEPS + 1];
        /** How many KEEPs had succeeded before: those behind are undone by going back here. */
        final int[] keeps = new int[MOST_STEPS + 1];
        int count = 0;

        boolean add(Node node, int place, int waiting, int keepsBefore) {
            if (count >= MOST_STEPS) {
                return false;
            }
            count++;
            begun[count] = node;
            from[count] = place;
            to[count] = place;
            waiter[count] = waiting;
            keeps[count] = keepsBefore;
            return true;
        }
    }

    /** A pile of steps; no step lies on it twice, so it never has more than there are steps. */
    private static final class Pile {
        final int[] steps = new int[MOST_STEPS];
        int size = 0;

        void push(int step) {
            if (size < MOST_STEPS) {
                steps[size] = step;
                size++;
            }
        }
    }

    /**
     * A match without recursion: what can be gone back into lies on a pile, the latest on top,
     * and each step knows which earlier one waits for it.
     */
    private static final class Search {
        private static final int BEGIN = 0;
        private static final int GO_ON = 1;
        private static final int GO_BACK = 2;

        final Stock stock;
        final Text subject = new Text();
        final Steps steps = new Steps();
        final Pile choices = new Pile();
        final Pile kept = new Pile();
        int start = 0;
        int place = 0;
        private int outcome = FAILED;
        private int move = GO_BACK;
        private Node next = null;
        private int waiter = 0;

        Search(Stock stock) {
            this.stock = stock;
        }

        int run(Text text, Node top, boolean anchored) {
            subject.become(text);
            steps.count = 0;
            outcome = FAILED;
            int last = anchored ? 0 : subject.size;
            for (int c = 0; c <= last && outcome == FAILED; c++) {
                runFrom(top, c);
            }
            if (outcome == ENDED_WELL) {
                setKept();
            }
            return outcome;
        }

        private void runFrom(Node top, int c) {
            start = c;
            choices.size = 0;
            kept.size = 0;
            outcome = UNDECIDED;
            begin(top, c, 0);
            for (int turn = 0; turn < MOST_TURNS && outcome == UNDECIDED; turn++) {
                switch (move) {
                    case BEGIN:
                        takeStep();
                        break;
                    case GO_ON:
                        goOn();
                        break;
                    default:
                        goBack();
                        break;
                }
            }
        }

        private void setKept() {
            for (int i = 0; i < kept.size; i++) {
                setVariable(kept.steps[i], steps.to[kept.steps[i]]);
            }
        }

        /** The variable of a KEEP or NOW becomes what it went over. */
        private void setVariable(int step, int to) {
            Text variable = stock.variable(steps.begun[step].b);
            if (variable != null) {
                variable.becomePart(subject, steps.from[step], to);
            }
        }

        private void begin(Node node, int c, int waiting) {
            next = node;
            place = c;
            waiter = waiting;
            move = node == null ? GO_BACK : BEGIN;
        }

        private void succeedAt(int to) {
            if (to == NONE) {
                move = GO_BACK;
            } else {
                place = to;
                move = GO_ON;
            }
        }

        private void takeStep() {
            if (!steps.add(next, place, waiter, kept.size)) {
                outcome = TOO_MANY_STEPS;
                return;
            }
            int step = steps.count;
            switch (next.kind) {
                case ABORT:
                    outcome = ABORTED;
                    break;
                case ARB:
                case FENCE:
                case MANY:
                    succeedWithChoice(step, place);
                    break;
                case BALANCED:
                    succeedWithChoice(step, subject.behindBalanced(place));
                    break;
                case OR:
                    choices.push(step);
                    begin(stock.nodeOf(next.a), place, waiter);
                    break;
                case LATER:
                    begin(stock.nodeOf(next.a), place, waiter);
                    break;
                case THEN:
                case KEEP:
                case NOW:
                    begin(stock.nodeOf(next.a), place, step);
                    break;
                default:
                    succeedAt(onlyPlace(next, place));
                    break;
            }
        }

        private void succeedWithChoice(int step, int to) {
            if (to != NONE) {
                steps.to[step] = to;
                choices.push(step);
            }
            succeedAt(to);
        }

        /** Where a node that succeeds once at most does so, begun at c; NONE if it fails. */
        private int onlyPlace(Node node, int c) {
            switch (node.kind) {
                case WORD:
                    return subject.behindWord(node.text, c);
                case ANY:
                    return subject.behindSign(node.text, true, c);
                case NOT:
                    return subject.behindSign(node.text, false, c);
                case SPAN:
                    return subject.behindRun(node.text, c);
                case BREAK:
                    return subject.beforeFirst(node.text, c);
                case PLACE:
                    return notePlace(stock.variable(node.a), c);
                case VALUE:
                    return behindValue(stock.variable(node.a), c);
                default:
                    return counted(node.kind, node.a, c);
            }
        }

        private int notePlace(Text variable, int c) {
            if (variable != null) {
                variable.becomeDigits(c);
            }
            return c;
        }

        private int behindValue(Text variable, int c) {
            return variable == null ? NONE : subject.behindWord(variable, c);
        }

        /** The comparisons are such that no number a, however large, runs over. */
        private int counted(int kind, int a, int c) {
            int n = subject.size;
            switch (kind) {
                case LEN:
                    return a <= n - c ? c + a : NONE;
                case FROM:
                    return c == a ? c : NONE;
                case BEFORE:
                    return c == n - a ? c : NONE;
                case TAB:
                    return a >= c && a <= n ? a : NONE;
                case BACK:
                    return n - a >= c ? n - a : NONE;
                case REST:
                    return n;
                default:
                    return NONE;
            }
        }

        /** A waiter is always an earlier step, so there are at most 3000 of them in a chain. */
        private void goOn() {
            int step = waiter;
            for (int left = MOST_STEPS; left > 0 && step != 0 && !awaitsMore(step); left--) {
                storePart(step);
                step = steps.waiter[step];
            }
            if (step == 0) {
                outcome = ENDED_WELL;
                return;
            }
            Node node = steps.begun[step];
            begin(node.kind == THEN ? stock.nodeOf(node.b) : node, place, steps.waiter[step]);
        }

        private boolean awaitsMore(int step) {
            int kind = steps.begun[step].kind;
            return kind == THEN || kind == MANY;
        }

        private void storePart(int step) {
            if (steps.begun[step].kind == NOW) {
                setVariable(step, place);
            } else {
                steps.to[step] = place;
                kept.push(step);
            }
        }

        private void goBack() {
            if (choices.size == 0) {
                outcome = FAILED;
                return;
            }
            choices.size--;
            int step = choices.steps[choices.size];
            kept.size = steps.keeps[step];
            waiter = steps.waiter[step];
            Node node = steps.begun[step];
            switch (node.kind) {
                case ARB:
                    succeedWithChoice(step, counted(LEN, 1, steps.to[step]));
                    break;
                case BALANCED:
                    succeedWithChoice(step, subject.behindBalanced(steps.to[step]));
                    break;
                case MANY:
                    begin(stock.nodeOf(node.a), steps.from[step], step);
                    break;
                case OR:
                    begin(stock.nodeOf(node.b), steps.from[step], waiter);
                    break;
                default:
                    outcome = ABORTED;
                    break;
            }
        }
    }
}
