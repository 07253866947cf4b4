import java.util.Random;

/** All promises: runs of at most 512 random calls, each answer beside that of the Model. */
public final class RandomRunsTest {
    private static final int RUNS = 8000;
    private static final int CALLS = 512;
    /** A turn's calls, but for those that read the variables. */
    private static final int MOST_CALLS_A_TURN = 80;
    private static final int[] ODD_NUMBERS = {-1, -2, 8, 63, 64, 65, 256, Integer.MAX_VALUE, Integer.MIN_VALUE};
    private static final String SIGNS = "aaabb()()01\u0000\u00ff";

    private final Random random;
    private final int run;
    private final PatternMill mill = new PatternMill();
    private final Model model = new Model();
    private final StringBuilder told = new StringBuilder();
    private int calls = 0;
    private int nodes = 0;
    private boolean sound = true;

    private static final int[] outcomes = new int[5];
    private static final int[] replaced = new int[2];

    private RandomRunsTest(int run) {
        this.run = run;
        this.random = new Random(run);
    }

    public static void main(String[] args) throws InterruptedException {
        // the Model goes down a few calls for each of 3000 steps
        Thread deep = new Thread(null, RandomRunsTest::allRuns, "deep", 1L << 29);
        deep.start();
        deep.join();
        System.out.println("matches: failed " + outcomes[1] + ", well " + outcomes[2] + ", aborted " + outcomes[3]
                + ", too many steps " + outcomes[4] + ", refused " + outcomes[0] + "; replaced " + replaced[1]
                + ", not " + replaced[0]);
        for (int outcome : outcomes) {
            Check.due("every outcome is met often", true, outcome > 1000);
        }
        Check.end();
    }

    private static void allRuns() {
        for (int run = 0; run < RUNS && Check.wrongSoFar() < 5; run++) {
            new RandomRunsTest(run).play();
        }
        Check.due("all runs were played", true, Check.wrongSoFar() == 0);
    }

    private void play() {
        while (calls + MOST_CALLS_A_TURN <= CALLS && sound) {
            int choice = random.nextInt(100);
            if (choice < 12) {
                layText();
            } else if (choice < 50) {
                makeNode();
            } else if (choice < 75) {
                match();
            } else if (choice < 76) {
                told.append("clear() ");
                calls++;
                mill.clear();
                model.clear();
                nodes = 0;
            } else {
                ask(choice);
            }
        }
    }

    private void due(String call, int want, int got) {
        calls++;
        told.append(call).append(want == got ? " " : " <- ");
        if (want != got) {
            sound = false;
            Check.due("run " + run + ": " + told, want, got);
        }
    }

    private int some(int bound) {
        return random.nextInt(25) == 0 ? ODD_NUMBERS[random.nextInt(ODD_NUMBERS.length)] : random.nextInt(bound);
    }

    private void signs(int count) {
        for (int i = 0; i < count; i++) {
            int s = SIGNS.charAt(random.nextInt(SIGNS.length())) + (random.nextInt(9) == 0 ? 512 : 0);
            due("sign(" + s + ")", model.sign(s), mill.sign(s));
        }
    }

    private void layText() {
        signs(random.nextInt(8) == 0 ? random.nextInt(70) : random.nextInt(9));
        int v = some(8);
        due("let(" + v + ")", model.let(v) ? 1 : 0, mill.let(v) ? 1 : 0);
    }

    private int someNode() {
        // the younger nodes have more within them
        int young = nodes - 1 - random.nextInt(6);
        return random.nextInt(3) > 0 && young >= 0 ? young : some(Math.max(1, nodes));
    }

    private void makeNode() {
        int kind = random.nextInt(3) > 0 ? random.nextInt(24) : 16 + random.nextInt(8);
        kind = random.nextInt(60) == 0 ? some(30) : kind;
        if ((kind == 14 || kind == 15) && random.nextInt(3) > 0) {
            kind = 17;
        }
        int a = kind >= 16 && kind <= 20 ? someNode() : some(kind == 23 ? Math.min(64, nodes + 4) : 8);
        int b = kind == 17 || kind == 18 ? someNode() : some(8);
        if (kind <= 4) {
            signs(random.nextInt(4));
        }
        int made = model.node(kind, a, b);
        due("node(" + kind + ", " + a + ", " + b + ")", made, mill.node(kind, a, b));
        nodes = made < 0 ? nodes : made + 1;
    }

    private void match() {
        int v = some(8);
        int node = someNode();
        boolean anchored = random.nextBoolean();
        int want = model.match(v, node, anchored);
        outcomes[want + 1]++;
        due("match(" + v + ", " + node + ", " + anchored + ")", want, mill.match(v, node, anchored));
        for (int what = 0; what < 3; what++) {
            due("latest(" + what + ")", model.latest(what), mill.latest(what));
        }
        compareVariables();
    }

    /** One of them, whole, as long as there are calls for it: reading all would leave few matches. */
    private void compareVariables() {
        int v = random.nextInt(8);
        due("length(" + v + ")", model.length(v), mill.length(v));
        for (int i = 0; i < model.length(v) && calls < CALLS; i++) {
            due("value(" + v + ", " + i + ")", model.value(v, i), mill.value(v, i));
        }
    }

    private void ask(int choice) {
        int a = some(choice < 88 ? 8 : Math.max(1, nodes));
        int b = some(5);
        switch (choice % 4) {
            case 0:
                due("value(" + a + ", " + b + ")", model.value(a, b), mill.value(a, b));
                break;
            case 1:
                due("latest(" + b + ")", model.latest(b), mill.latest(b));
                break;
            case 2:
                due("about(" + a + ", " + b + ")", model.about(a, b), mill.about(a, b));
                break;
            default:
                signs(random.nextInt(3));
                boolean want = model.replace(a);
                replaced[want ? 1 : 0]++;
                due("replace(" + a + ")", want ? 1 : 0, mill.replace(a) ? 1 : 0);
                compareVariables();
                break;
        }
    }
}
