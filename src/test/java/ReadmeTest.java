import java.io.IOException;
import java.nio.file.Files;
import java.nio.file.Path;
import java.util.ArrayList;
import java.util.List;

/** The examples of README.md: they stand below as they stand there, and do what they say. */
public final class ReadmeTest {
    private static final Path README = Path.of("README.md");
    private static final Path HERE = Path.of("src/test/java/ReadmeTest.java");
    private static final int EXAMPLES = 3;

    public static void main(String[] args) throws IOException {
        examples();
        examplesAreThoseOfTheReadme();
        Check.end();
    }

    private static void examples() {
        PatternMill mill = new PatternMill();
        for (char s : "key=val".toCharArray()) mill.sign(s);
        mill.let(0);                            // variable 0 is "key=val"
        mill.sign('=');
        int upTo = mill.node(4, 0, 0);          // BREAK "="
        int key = mill.node(19, upTo, 1);       // KEEP it in variable 1
        int rest = mill.node(10, 0, 0);         // REST
        int all = mill.node(17, key, rest);     // one THEN the other
        int outcome = mill.match(0, all, true); // 1: it ended well; variable 1 is "key"
        int to = mill.latest(1);                // 7: the place to which it went

        Check.due("the match", 1, outcome);
        Check.due("to which it went", 7, to);
        Check.due("variable 0", "key=val", text(mill, 0));
        Check.due("variable 1", "key", text(mill, 1));

        mill.match(0, upTo, true);              // 1: it went from 0 to 3
        for (char s : "name".toCharArray()) mill.sign(s);
        mill.replace(0);                        // true: variable 0 is "name=val", the slip is empty

        Check.due("from which it went", 0, mill.latest(0));
        Check.due("to which it went", 3, mill.latest(1));
        Check.due("variable 0, replaced", "name=val", text(mill, 0));

        mill.clear();                           // no nodes; the variables are as they were
        mill.sign('(');
        int opening = mill.node(0, 0, 0);       // node 0: WORD "("
        mill.sign(')');
        int closing = mill.node(0, 0, 0);       // node 1: WORD ")"
        int itself = mill.node(23, 6, 0);       // node 2: LATER node 6
        int behind = mill.node(17, itself, closing);
        int nested = mill.node(17, opening, behind);
        int nothing = mill.node(0, 0, 0);       // node 5: WORD "", as the slip is empty
        int even = mill.node(18, nested, nothing); // node 6: "(" itself ")" OR nothing
        for (char s : "((()))".toCharArray()) mill.sign(s);
        mill.let(2);
        mill.match(2, even, true);              // 1: it went from 0 to 6

        Check.due("the number of the whole", 6, even);
        Check.due("variable 0, after clear", "name=val", text(mill, 0));
        Check.due("from which it went", 0, mill.latest(0));
        Check.due("to which it went", 6, mill.latest(1));
    }

    private static String text(PatternMill mill, int v) {
        StringBuilder text = new StringBuilder();
        for (int i = 0; i < mill.length(v); i++) {
            text.append((char) mill.value(v, i));
        }
        return text.toString();
    }

    private static void examplesAreThoseOfTheReadme() throws IOException {
        String here = stripped(Files.readAllLines(HERE));
        List<String> blocks = blocks(Files.readAllLines(README));
        Check.due("examples in README.md", EXAMPLES, blocks.size());
        for (String block : blocks) {
            Check.due("stands in ReadmeTest as in README.md: " + block, true, here.contains(block));
        }
    }

    private static List<String> blocks(List<String> lines) {
        List<String> blocks = new ArrayList<>();
        int begin = -1;
        for (int i = 0; i < lines.size(); i++) {
            if (lines.get(i).equals("```java")) {
                begin = i + 1;
            } else if (lines.get(i).equals("```") && begin >= 0) {
                blocks.add(stripped(lines.subList(begin, i)));
                begin = -1;
            }
        }
        return blocks;
    }

    private static String stripped(List<String> lines) {
        StringBuilder all = new StringBuilder();
        for (String line : lines) {
            all.append(line.strip()).append('\n');
        }
        return all.toString();
    }
}
