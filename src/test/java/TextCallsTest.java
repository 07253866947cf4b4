/** Promises 1 to 5 and 11: a new object, sign, let, value, length, replace. */
public final class TextCallsTest {
    private static final int NONE = PatternMill.NONE;

    public static void main(String[] args) {
        newObject();
        sign();
        let();
        valueAndLength();
        replace();
        replaceRefuses();
        replaceOfAnotherVariable();
        replaceAtTheLimit();
        Check.end();
    }

    private static void newObject() {
        PatternMill mill = new PatternMill();
        Check.due("NONE", -1, NONE);
        for (int v = 0; v < 8; v++) {
            Check.due("new: length " + v, 0, mill.length(v));
            Check.due("new: value " + v, NONE, mill.value(v, 0));
        }
        for (int what = -1; what <= 3; what++) {
            Check.due("new: about(0, " + what + ")", NONE, mill.about(0, what));
            Check.due("new: latest(" + what + ")", NONE, mill.latest(what));
        }
        Check.due("new: match", NONE, mill.match(0, 0, true));
        Check.due("new: replace", false, mill.replace(0));
        Check.due("new: the slip is empty", 1, mill.sign(1));
        Check.due("new: first node", 0, mill.node(10, 0, 0));
    }

    private static void sign() {
        PatternMill mill = new PatternMill();
        int[] given = {0, 255, 256, -1, 0x12345678, Integer.MIN_VALUE, 300};
        int[] kept = {0, 255, 0, 255, 0x78, 0, 44};
        for (int i = 0; i < given.length; i++) {
            Check.due("sign " + given[i], i + 1, mill.sign(given[i]));
        }
        mill.let(3);
        for (int i = 0; i < kept.length; i++) {
            Check.due("low bits of " + given[i], kept[i], mill.value(3, i));
        }
        for (int i = 1; i <= 64; i++) {
            Check.due("sign up to 64", i, mill.sign(i));
        }
        Check.due("sign 65", NONE, mill.sign(7));
        Check.due("sign 66", NONE, mill.sign(7));
        mill.let(4);
        Check.due("64 signs came", 64, mill.length(4));
        Check.due("the last that came", 64, mill.value(4, 63));
        Check.due("after let the slip takes more", 1, mill.sign(9));
    }

    private static void let() {
        Bench bench = new Bench();
        bench.slip("abc");
        for (int v : new int[] {-1, 8, Integer.MIN_VALUE, Integer.MAX_VALUE}) {
            Check.due("let " + v, false, bench.mill.let(v));
        }
        Check.due("let 7", true, bench.mill.let(7));
        Check.due("what a refused let left on the slip", "abc", bench.text(7));
        Check.due("let 0 with the empty slip", true, bench.mill.let(0));
        Check.due("an empty variable", 0, bench.mill.length(0));
        Check.due("a variable of its own", true, bench.let(6, "x"));
        Check.due("the other stays", "abc", bench.text(7));
        Check.due("let again", true, bench.let(7, "de"));
        Check.due("a shorter text", "de", bench.text(7));
        Check.due("emptied", true, bench.mill.let(7));
        Check.due("an emptied variable", "", bench.text(7));
    }

    private static void valueAndLength() {
        Bench bench = new Bench();
        bench.let(2, "hey");
        Check.due("value(2, 0)", 'h', bench.mill.value(2, 0));
        Check.due("value(2, 2)", 'y', bench.mill.value(2, 2));
        for (int i : new int[] {3, 4, 63, 64, 65, -1, Integer.MAX_VALUE, Integer.MIN_VALUE}) {
            Check.due("value(2, " + i + ")", NONE, bench.mill.value(2, i));
        }
        Check.due("length(2)", 3, bench.mill.length(2));
        for (int v : new int[] {-1, 8, Integer.MAX_VALUE, Integer.MIN_VALUE}) {
            Check.due("value(" + v + ", 0)", NONE, bench.mill.value(v, 0));
            Check.due("length(" + v + ")", NONE, bench.mill.length(v));
        }
        bench.let(2, "a");
        Check.due("a sign of a text that was longer", NONE, bench.mill.value(2, 1));
    }

    private static void replace() {
        Bench bench = Bench.with("one two three");
        bench.match(bench.word("two"), false);
        bench.slip("2");
        Check.due("replace", true, bench.mill.replace(0));
        Check.due("shorter", "one 2 three", bench.text(0));
        Check.due("the slip is empty then", 1, bench.mill.sign('x'));
        Check.due("replace again, the same places", true, bench.mill.replace(0));
        Check.due("what stands there now", "one xhree", bench.text(0));
        Check.due("replace by nothing", true, bench.mill.replace(0));
        Check.due("taken out", "one ee", bench.text(0));
        bench.slip("long");
        Check.due("the text has fewer signs", false, bench.mill.replace(0));
        Check.due("nothing happened", "one ee", bench.text(0));
        Check.due("nor to the slip", 5, bench.mill.sign('!'));
        Check.due("latest stays", 7, bench.mill.latest(1));

        Bench empty = Bench.with("ab");
        empty.match(empty.node(Bench.FROM, 1), false);
        empty.slip("--");
        Check.due("replace of an empty part", true, empty.mill.replace(0));
        Check.due("put between", "a--b", empty.text(0));
    }

    private static void replaceRefuses() {
        Bench bench = Bench.with("abc");
        int well = bench.word("b");
        int fail = bench.node(Bench.FAIL);
        int abort = bench.node(Bench.ABORT);
        int endless = bench.node(Bench.LATER, 3);
        bench.slip("xy");
        bench.mill.match(0, well, false);
        for (int v : new int[] {-1, 8, Integer.MAX_VALUE, Integer.MIN_VALUE}) {
            Check.due("replace " + v, false, bench.mill.replace(v));
        }
        for (int bad : new int[] {fail, abort, endless}) {
            bench.mill.match(0, well, false);
            bench.mill.match(0, bad, false);
            Check.due("replace after a match that did not end well", false, bench.mill.replace(0));
        }
        bench.mill.match(0, well, false);
        bench.mill.match(8, well, false);
        bench.mill.match(0, 63, false);
        bench.mill.clear();
        Check.due("replace after calls that are no match", true, bench.mill.replace(0));
        Check.due("the slip was kept all the while", "axyc", bench.text(0));
    }

    private static void replaceOfAnotherVariable() {
        Bench bench = Bench.with("abc");
        bench.let(1, "12345");
        bench.let(2, "12");
        bench.let(3, "123");
        bench.match(bench.word("bc"), false);
        bench.slip("_");
        Check.due("too short a text", false, bench.mill.replace(2));
        Check.due("another text", true, bench.mill.replace(1));
        Check.due("its part", "1_45", bench.text(1));
        Check.due("a text that just reaches", true, bench.mill.replace(3));
        Check.due("its end", "1", bench.text(3));
        Check.due("the subject's variable stays", "abc", bench.text(0));
    }

    private static void replaceAtTheLimit() {
        Bench bench = Bench.with("a".repeat(62) + "bc");
        bench.match(bench.word("bc"), false);
        bench.slip("123");
        Check.due("65 signs", false, bench.mill.replace(0));
        Check.due("the text stays", "a".repeat(62) + "bc", bench.text(0));
        bench.mill.let(1);
        bench.slip("12");
        Check.due("64 signs", true, bench.mill.replace(0));
        Check.due("a full text", "a".repeat(62) + "12", bench.text(0));
        bench.match(bench.node(Bench.REST), true);
        bench.slip("z".repeat(64));
        Check.due("all of it by 64 others", true, bench.mill.replace(0));
        Check.due("the others", "z".repeat(64), bench.text(0));
    }
}
