import java.io.IOException;
import java.lang.reflect.Constructor;
import java.lang.reflect.Field;
import java.lang.reflect.Method;
import java.lang.reflect.Modifier;
import java.nio.file.Files;
import java.nio.file.Path;
import java.util.Arrays;
import java.util.Set;
import java.util.TreeSet;
import java.util.regex.Pattern;

/** The document's face and no more, and the rules of LANGUAGE.md that a look at the file can tell. */
public final class FaceTest {
    private static final Path SOURCE = Path.of("src/main/java/PatternMill.java");

    public static void main(String[] args) throws IOException {
        face();
        hidden();
        inside();
        source();
        Check.end();
    }

    private static void face() {
        Set<String> want = new TreeSet<>(Arrays.asList(
                "public static final int PatternMill.NONE",
                "public PatternMill()",
                "public int PatternMill.sign(int)",
                "public boolean PatternMill.let(int)",
                "public int PatternMill.value(int,int)",
                "public int PatternMill.length(int)",
                "public int PatternMill.node(int,int,int)",
                "public void PatternMill.clear()",
                "public int PatternMill.about(int,int)",
                "public int PatternMill.match(int,int,boolean)",
                "public int PatternMill.latest(int)",
                "public boolean PatternMill.replace(int)"));
        Set<String> got = new TreeSet<>();
        for (Field field : PatternMill.class.getDeclaredFields()) {
            if (!Modifier.isPrivate(field.getModifiers())) {
                got.add(field.toString());
            }
        }
        for (Constructor<?> constructor : PatternMill.class.getDeclaredConstructors()) {
            got.add(constructor.toString());
        }
        for (Method method : PatternMill.class.getDeclaredMethods()) {
            if (!Modifier.isPrivate(method.getModifiers())) {
                got.add(method.toString());
            }
        }
        Check.due("the face", want.toString(), got.toString());
        Check.due("final", true, Modifier.isFinal(PatternMill.class.getModifiers()));
        Check.due("public", true, Modifier.isPublic(PatternMill.class.getModifiers()));
        Check.due("without a package", "", PatternMill.class.getPackageName());
    }

    private static void hidden() {
        Set<String> names = new TreeSet<>();
        for (Method method : PatternMill.class.getMethods()) {
            names.add(method.getName());
        }
        for (Class<?> inner : PatternMill.class.getDeclaredClasses()) {
            for (Method method : inner.getDeclaredMethods()) {
                Check.due("a second " + method, false, names.contains(method.getName()));
            }
        }
    }

    private static void inside() {
        Class<?>[] inner = PatternMill.class.getDeclaredClasses();
        Check.due("at most twelve classes", true, inner.length + 1 <= 12);
        for (Class<?> one : inner) {
            int modifiers = one.getModifiers();
            Check.due(one + " is static", true, Modifier.isStatic(modifiers));
            Check.due(one + " is hidden", false, Modifier.isPublic(modifiers) || Modifier.isProtected(modifiers));
            long fields = Arrays.stream(one.getDeclaredFields()).filter(f -> !Modifier.isStatic(f.getModifiers())).count();
            Check.due(one + " has at most twenty fields", true, fields <= 20);
        }
    }

    private static void source() throws IOException {
        String source = Files.readString(SOURCE).replaceAll("(?s)/\\*.*?\\*/", "").replaceAll("//[^\n]*", "");
        String[] forbidden = {"import", "package", "synchronized", "assert", "finally", "throw", "try", "->", "::",
            "Exact", "protected", "System\\.(?!arraycopy)", "Thread", "Random", "hashCode", "toString", "equals"};
        for (String word : forbidden) {
            String whole = Character.isLetter(word.charAt(0)) ? "\\b" + word : word;
            Check.due("no " + word, false, Pattern.compile(whole).matcher(source).find());
        }
    }
}
