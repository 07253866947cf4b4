import java.util.ArrayList;
import java.util.Arrays;
import java.util.Comparator;
import java.util.List;

/**
 * The document once more, as plainly as can be: every begun node is an object that is told to begin
 * and to go back, and asks its parts in turn. Needs a deep stack.
 */
final class Model {
    private static final int FAILS = -1;
    private static final int MOST_STEPS = 3000;

    private final List<Integer> slip = new ArrayList<>();
    private final List<List<Integer>> variables = new ArrayList<>();
    private final List<Pattern> patterns = new ArrayList<>();
    private List<Integer> subject = List.of();
    private int steps;
    private int successes;
    private int[] latest = {-1, -1, -1};

    private record Pattern(int kind, int a, int b, List<Integer> text) {
    }

    private static final class Ends extends RuntimeException {
        private static final long serialVersionUID = 1;
        private final int outcome;

        private Ends(int outcome) {
            super(null, null, false, false);
            this.outcome = outcome;
        }
    }

    Model() {
        for (int v = 0; v < 8; v++) {
            variables.add(List.of());
        }
    }

    int sign(int s) {
        if (slip.size() == 64) {
            return -1;
        }
        slip.add(Math.floorMod(s, 256));
        return slip.size();
    }

    private List<Integer> takeSlip() {
        List<Integer> taken = List.copyOf(slip);
        slip.clear();
        return taken;
    }

    private static boolean isVariable(int v) {
        return 0 <= v && v <= 7;
    }

    private boolean isNode(int i) {
        return 0 <= i && i < patterns.size();
    }

    boolean let(int v) {
        if (isVariable(v)) {
            variables.set(v, takeSlip());
        }
        return isVariable(v);
    }

    int value(int v, int i) {
        return isVariable(v) && 0 <= i && i < variables.get(v).size() ? variables.get(v).get(i) : -1;
    }

    int length(int v) {
        return isVariable(v) ? variables.get(v).size() : -1;
    }

    int node(int kind, int a, int b) {
        if (kind < 0 || kind > 23 || patterns.size() == 64) {
            return -1;
        }
        boolean number = Arrays.asList(5, 6, 7, 8, 9).contains(kind);
        boolean nodeA = Arrays.asList(16, 17, 18, 19, 20).contains(kind);
        boolean nodeB = kind == 17 || kind == 18;
        boolean variableA = kind == 21 || kind == 22;
        boolean variableB = kind == 19 || kind == 20;
        boolean later = kind == 23;
        if (number && a < 0 || nodeA && !isNode(a) || nodeB && !isNode(b) || variableA && !isVariable(a)
                || variableB && !isVariable(b) || later && (a < 0 || a > 63)) {
            return -1;
        }
        int keptA = number || nodeA || variableA || later ? a : 0;
        int keptB = nodeB || variableB ? b : 0;
        patterns.add(new Pattern(kind, keptA, keptB, kind < 5 ? takeSlip() : List.of()));
        return patterns.size() - 1;
    }

    void clear() {
        patterns.clear();
    }

    int about(int node, int what) {
        if (!isNode(node) || what < 0 || what > 3) {
            return -1;
        }
        Pattern p = patterns.get(node);
        return new int[] {p.kind, p.a, p.b, p.text.size()}[what];
    }

    int latest(int what) {
        return what < 0 || what > 2 ? -1 : latest[what];
    }

    boolean replace(int v) {
        if (!isVariable(v) || latest[0] < 0 || variables.get(v).size() < latest[1]) {
            return false;
        }
        List<Integer> text = new ArrayList<>(variables.get(v).subList(0, latest[0]));
        text.addAll(slip);
        text.addAll(variables.get(v).subList(latest[1], variables.get(v).size()));
        if (text.size() > 64) {
            return false;
        }
        variables.set(v, List.copyOf(text));
        slip.clear();
        return true;
    }

    int match(int v, int node, boolean anchored) {
        if (!isVariable(v) || !isNode(node)) {
            return -1;
        }
        subject = variables.get(v);
        steps = 0;
        int from = -1;
        int to = -1;
        int outcome = 0;
        try {
            for (int c = 0; c <= (anchored ? 0 : subject.size()) && outcome == 0; c++) {
                Begun top = begun(node);
                int end = top.begin(c);
                if (end != FAILS) {
                    from = c;
                    to = end;
                    outcome = 1;
                    setKept(top);
                }
            }
        } catch (Ends ends) {
            outcome = ends.outcome;
        }
        latest = new int[] {from, to, steps};
        return outcome;
    }

    private void setKept(Begun top) {
        List<Begun> keeps = new ArrayList<>();
        top.gatherKeeps(keeps);
        keeps.sort(Comparator.comparingInt(keep -> keep.success));
        for (Begun keep : keeps) {
            variables.set(keep.pattern.b, List.copyOf(subject.subList(keep.c, keep.reached)));
        }
    }

    /** A new object for a node, which is not begun yet. */
    private Begun begun(int node) {
        return new Begun(patterns.get(node));
    }

    private final class Begun {
        private final Pattern pattern;
        private int c;
        private int reached;
        private int success;
        /** All the places of a node without parts, and how many of them have been told. */
        private List<Integer> places;
        private int told;
        private Begun first;
        private Begun second;

        private Begun(Pattern pattern) {
            this.pattern = pattern;
        }

        private int begin(int at) {
            if (steps == MOST_STEPS) {
                throw new Ends(3);
            }
            steps++;
            c = at;
            switch (pattern.kind) {
                case 15:
                    throw new Ends(2);
                case 16:
                    return c;
                case 17:
                    first = begun(pattern.a);
                    return secondBehind(first.begin(c));
                case 18:
                    first = begun(pattern.a);
                    return elseSecond(first.begin(c));
                case 19:
                case 20:
                    first = begun(pattern.a);
                    return noted(first.begin(c));
                case 23:
                    if (!isNode(pattern.a)) {
                        return FAILS;
                    }
                    first = begun(pattern.a);
                    return first.begin(c);
                default:
                    places = leafPlaces();
                    return nextPlace();
            }
        }

        private int goBack() {
            switch (pattern.kind) {
                case 14:
                    throw new Ends(2);
                case 16:
                    if (first == null) {
                        first = begun(pattern.a);
                        return secondBehind(first.begin(c));
                    }
                    return secondAgain();
                case 17:
                    return secondAgain();
                case 18:
                    return second == null ? elseSecond(first.goBack()) : second.goBack();
                case 19:
                case 20:
                    return noted(first.goBack());
                case 23:
                    return first.goBack();
                default:
                    return nextPlace();
            }
        }

        private int secondAgain() {
            int end = second.goBack();
            return end != FAILS ? end : secondBehind(first.goBack());
        }

        private int secondBehind(int middle) {
            while (middle != FAILS) {
                second = pattern.kind == 16 ? new Begun(pattern) : begun(pattern.b);
                int end = second.begin(middle);
                if (end != FAILS) {
                    return end;
                }
                middle = first.goBack();
            }
            return FAILS;
        }

        private int elseSecond(int end) {
            if (end != FAILS) {
                return end;
            }
            second = begun(pattern.b);
            return second.begin(c);
        }

        private int noted(int end) {
            if (end != FAILS) {
                successes++;
                success = successes;
                reached = end;
                if (pattern.kind == 20) {
                    variables.set(pattern.b, List.copyOf(subject.subList(c, end)));
                }
            }
            return end;
        }

        private void gatherKeeps(List<Begun> keeps) {
            boolean onlySecond = pattern.kind == 18 && second != null;
            if (first != null && !onlySecond) {
                first.gatherKeeps(keeps);
            }
            if (second != null) {
                second.gatherKeeps(keeps);
            }
            if (pattern.kind == 19) {
                keeps.add(this);
            }
        }

        private int nextPlace() {
            if (told == places.size()) {
                return FAILS;
            }
            told++;
            return places.get(told - 1);
        }

        private List<Integer> leafPlaces() {
            int n = subject.size();
            long a = pattern.a;
            switch (pattern.kind) {
                case 0:
                    return wordPlaces(pattern.text);
                case 1:
                    return only(c < n && pattern.text.contains(subject.get(c)), c + 1);
                case 2:
                    return only(c < n && !pattern.text.contains(subject.get(c)), c + 1);
                case 3:
                    return only(run() > 0, c + run());
                case 4:
                    return breakPlaces();
                case 5:
                    return only(c + a <= n, c + a);
                case 6:
                    return only(c == a, c);
                case 7:
                    return only(c == n - a, c);
                case 8:
                    return only(c <= a && a <= n, a);
                case 9:
                    return only(c <= n - a, n - a);
                case 10:
                    return only(true, n);
                case 11:
                    return arbPlaces();
                case 12:
                    return balancedPlaces();
                case 13:
                    return List.of();
                case 14:
                    return only(true, c);
                case 21:
                    variables.set(pattern.a, digits(c));
                    return only(true, c);
                case 22:
                    return wordPlaces(variables.get(pattern.a));
                default:
                    throw new IllegalStateException();
            }
        }

        private List<Integer> only(boolean there, long place) {
            return there ? List.of((int) place) : List.of();
        }

        private List<Integer> wordPlaces(List<Integer> word) {
            int end = c + word.size();
            return only(end <= subject.size() && subject.subList(c, end).equals(word), end);
        }

        private int run() {
            int run = 0;
            while (c + run < subject.size() && pattern.text.contains(subject.get(c + run))) {
                run++;
            }
            return run;
        }

        private List<Integer> breakPlaces() {
            for (int p = c; p < subject.size(); p++) {
                if (pattern.text.contains(subject.get(p))) {
                    return List.of(p);
                }
            }
            return List.of();
        }

        private List<Integer> arbPlaces() {
            List<Integer> all = new ArrayList<>();
            for (int p = c; p <= subject.size(); p++) {
                all.add(p);
            }
            return all;
        }

        private List<Integer> balancedPlaces() {
            List<Integer> all = new ArrayList<>();
            for (int p = c + 1; p <= subject.size(); p++) {
                boolean sound = count(40, p) == count(41, p);
                for (int on = c; on <= p; on++) {
                    sound = sound && count(41, on) <= count(40, on);
                }
                if (sound) {
                    all.add(p);
                }
            }
            return all;
        }

        private long count(int sign, int upTo) {
            return subject.subList(c, upTo).stream().filter(s -> s == sign).count();
        }
    }

    private static List<Integer> digits(int number) {
        List<Integer> digits = new ArrayList<>();
        for (char digit : Integer.toString(number).toCharArray()) {
            digits.add((int) digit);
        }
        return List.copyOf(digits);
    }
}
