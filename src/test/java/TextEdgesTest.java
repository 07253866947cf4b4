/** The edges of promises 1 to 5, sentence by sentence: a new object, sign, let, value, length. */
public final class TextEdgesTest {
    private static final int NONE = PatternMill.NONE;
    private static final int BIG = Integer.MAX_VALUE;
    private static final int SMALL = Integer.MIN_VALUE;
    private static final int[] NO_VARIABLES = {-1, 8, 9, -8, 64, 256, BIG, SMALL};

    public static void main(String[] args) {
        newHasNoNodes();
        newHasNoMatch();
        newSlipIsEmpty();
        newVariablesAreEmpty();
        objectsShareNothing();
        signTakesTheLowestEightBits();
        signTellsHowMany();
        signRefusesTheSixtyFifth();
        signsThatDidNotComeStayAway();
        letTakesTextsOfAllLengths();
        letEmptiesTheSlip();
        letReachesEachVariableAlone();
        letRefusesOtherVariables();
        valueIsFromZeroOn();
        valueBeyondTheText();
        valueOfNoVariable();
        valueOfAShortenedText();
        lengthOfEmptyAndFull();
        lengthOfNoVariable();
        Check.end();
    }

    private static void newHasNoNodes() {
        Bench bench = new Bench();
        for (int node = 0; node < 64; node++) {
            Check.due("new: about(" + node + ", 0)", NONE, bench.mill.about(node, 0));
            Check.due("new: match with " + node, NONE, bench.mill.match(0, node, node % 2 == 0));
        }
        for (int kind = 16; kind <= 20; kind++) {
            Check.due("new: no node for kind " + kind, NONE, bench.node(kind, 0, 0));
        }
        Check.due("new: the first number", 0, bench.node(Bench.FAIL));
        Check.due("new: the second number", 1, bench.node(Bench.FAIL));
    }

    private static void newHasNoMatch() {
        for (int what = -1; what <= 3; what++) {
            Check.due("new: latest(" + what + ")", NONE, new PatternMill().latest(what));
        }
        for (int v = 0; v < 8; v++) {
            int variable = v;
            Unmoved.by("new: replace(" + v + ")", bench -> { }, 0, mill -> mill.replace(variable) ? 1 : 0);
        }
    }

    private static void newSlipIsEmpty() {
        Check.due("new: the first sign", 1, new PatternMill().sign(7));
        Bench letted = new Bench();
        Check.due("new: let", true, letted.mill.let(2));
        Check.due("new: what let gave", 0, letted.mill.length(2));
        Bench word = new Bench();
        Check.due("new: signs of a WORD", 0, word.mill.about(word.node(Bench.WORD), 3));
    }

    private static void newVariablesAreEmpty() {
        for (int v = 0; v < 8; v++) {
            Bench bench = new Bench();
            Check.due("new: length(" + v + ")", 0, bench.mill.length(v));
            Check.due("new: value(" + v + ", 0)", NONE, bench.mill.value(v, 0));
            Check.due("new: the subject " + v, "1 0-0 in 1", bench.match(v, bench.node(Bench.BEFORE, 0), false));
            bench.let(0, "ab");
            bench.mill.clear();
            String want = v == 0 ? "1 0-2 in 1" : "1 0-0 in 1";
            Check.due("new: VALUE " + v, want, bench.match(bench.node(Bench.VALUE, v), false));
        }
    }

    private static void objectsShareNothing() {
        Bench used = new Bench();
        Bench before = new Bench();
        Unmoved.wellMatched(used);
        Bench behind = new Bench();
        for (Bench bench : new Bench[] {before, behind}) {
            Check.due("another object's variable", 0, bench.mill.length(0));
            Check.due("another object's node", NONE, bench.mill.about(0, 0));
            Check.due("another object's match", NONE, bench.mill.latest(2));
            Check.due("another object's slip", 1, bench.mill.sign(0));
        }
        Check.due("the used object's own", "one two", used.text(0));
    }

    private static void keptAs(int want, int given) {
        Bench bench = new Bench();
        bench.mill.sign(given);
        bench.mill.let(0);
        Check.due("sign(" + given + ") is kept as", want, bench.mill.value(0, 0));
    }

    private static void signTakesTheLowestEightBits() {
        for (int s = 0; s < 256; s++) {
            keptAs(s, s);
        }
        keptAs(0, 256);
        keptAs(1, 257);
        keptAs(255, 511);
        keptAs(0, 512);
        keptAs(255, -1);
        keptAs(254, -2);
        keptAs(128, -128);
        keptAs(127, -129);
        keptAs(1, -255);
        keptAs(0, -256);
        keptAs(255, -257);
        keptAs(0, 65536);
        keptAs(0, SMALL);
        keptAs(255, BIG);
    }

    private static void signTellsHowMany() {
        Bench bench = new Bench();
        for (int count = 1; count <= 64; count++) {
            Check.due("sign " + count, count, bench.mill.sign(0));
        }
    }

    private static void signRefusesTheSixtyFifth() {
        for (int s : new int[] {0, 33, 255, -1, 256, BIG, SMALL}) {
            Unmoved.by("sign(" + s + ") with 64", Unmoved::fullSlip, NONE, mill -> mill.sign(s));
        }
    }

    private static Bench withOverfullSlip() {
        Bench bench = Bench.with("ab");
        bench.slip("q".repeat(64));
        for (int i = 0; i < 3; i++) {
            Check.due("once too often, again and again", NONE, bench.mill.sign('!'));
        }
        return bench;
    }

    private static void signsThatDidNotComeStayAway() {
        Bench letted = withOverfullSlip();
        letted.mill.let(1);
        Check.due("not in the variable", "q".repeat(64), letted.text(1));
        Check.due("not in the next text", 1, letted.mill.sign('a'));
        letted.mill.let(1);
        Check.due("the next text", "a", letted.text(1));
        Bench word = withOverfullSlip();
        Check.due("not in the node", 64, word.mill.about(word.node(Bench.SPAN), 3));
        word.let(2, "!");
        Check.due("not in the node's set", "0 in 1", word.match(2, 0, true));
        Bench replaced = withOverfullSlip();
        replaced.mill.match(0, replaced.node(Bench.REST), true);
        Check.due("replace by the full slip", true, replaced.mill.replace(0));
        Check.due("not in the replaced text", "q".repeat(64), replaced.text(0));
    }

    private static void letTakesTextsOfAllLengths() {
        for (int length : new int[] {0, 1, 2, 63, 64}) {
            for (String before : new String[] {"", "before", "b".repeat(64)}) {
                Bench bench = new Bench();
                bench.let(5, before);
                String text = "t".repeat(length);
                Check.due("let of " + length, true, bench.let(5, text));
                Check.due("a variable of " + length, text, bench.text(5));
                Check.due("just so many", NONE, bench.mill.value(5, length));
            }
        }
    }

    private static void letEmptiesTheSlip() {
        Bench bench = new Bench();
        bench.let(1, "first");
        Check.due("let again, of the empty slip", true, bench.mill.let(2));
        Check.due("empty then", "", bench.text(2));
        Check.due("the first text stays", "first", bench.text(1));
        Check.due("one sign more", 1, bench.mill.sign('x'));
        Check.due("the first text is no longer the slip", "first", bench.text(1));
        bench.slip("y".repeat(63));
        Check.due("let of a full slip", true, bench.mill.let(2));
        Check.due("room again", 1, bench.mill.sign('z'));
    }

    private static void letReachesEachVariableAlone() {
        Bench bench = new Bench();
        for (int v = 0; v < 8; v++) {
            Check.due("let " + v, true, bench.let(v, "v" + v));
        }
        for (int v = 0; v < 8; v++) {
            Check.due("text " + v, "v" + v, bench.text(v));
        }
    }

    private static void letRefusesOtherVariables() {
        for (int v : NO_VARIABLES) {
            Unmoved.by("let(" + v + ")", Unmoved::wellMatched, 0, mill -> mill.let(v) ? 1 : 0);
            Unmoved.by("let(" + v + ") of a full slip", Unmoved::fullSlip, 0, mill -> mill.let(v) ? 1 : 0);
        }
    }

    private static void valueIsFromZeroOn() {
        Bench bench = new Bench();
        for (int i = 0; i < 64; i++) {
            bench.mill.sign(i * 4 + 3);
        }
        bench.mill.let(7);
        for (int i = 0; i < 64; i++) {
            Check.due("value(7, " + i + ")", i * 4 + 3, bench.mill.value(7, i));
        }
        Bench zero = new Bench();
        zero.mill.sign(0);
        zero.mill.let(0);
        Check.due("a sign 0 is there", 0, zero.mill.value(0, 0));
    }

    private static void valueBeyondTheText() {
        int[] beyond = {64, 65, 128, -1, -2, -64, BIG, SMALL};
        for (int i : beyond) {
            Unmoved.by("value(0, " + i + ")", Unmoved::wellMatched, NONE, mill -> mill.value(0, i));
            Unmoved.by("value(0, " + i + ") of 64", b -> b.let(0, "f".repeat(64)), NONE, mill -> mill.value(0, i));
        }
        Unmoved.by("just behind the text", Unmoved::wellMatched, NONE, mill -> mill.value(0, 7));
        Unmoved.by("of an empty text", Unmoved::wellMatched, NONE, mill -> mill.value(5, 0));
        Check.due("just the last", 't', Bench.with("last").mill.value(0, 3));
    }

    private static void valueOfNoVariable() {
        for (int v : NO_VARIABLES) {
            for (int i : new int[] {0, 1, -1, BIG}) {
                Unmoved.by("value(" + v + ", " + i + ")", Unmoved::wellMatched, NONE, mill -> mill.value(v, i));
            }
        }
    }

    private static void valueOfAShortenedText() {
        Bench bench = Bench.with("longer");
        bench.let(0, "ab");
        Check.due("still there", 'b', bench.mill.value(0, 1));
        for (int i = 2; i < 8; i++) {
            Check.due("no longer there", NONE, bench.mill.value(0, i));
        }
    }

    private static void lengthOfEmptyAndFull() {
        Bench bench = new Bench();
        Check.due("empty", 0, bench.mill.length(3));
        bench.let(3, "x");
        Check.due("one", 1, bench.mill.length(3));
        bench.let(3, "x".repeat(64));
        Check.due("full", 64, bench.mill.length(3));
        Check.due("its neighbours", 0, bench.mill.length(2) + bench.mill.length(4));
        bench.mill.let(3);
        Check.due("empty again", 0, bench.mill.length(3));
        bench.slip("waits");
        Check.due("the slip is no variable's", 0, bench.mill.length(3));
    }

    private static void lengthOfNoVariable() {
        for (int v : NO_VARIABLES) {
            Unmoved.by("length(" + v + ")", Unmoved::wellMatched, NONE, mill -> mill.length(v));
        }
    }
}
