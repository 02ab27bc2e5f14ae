import java.io.IOException;
import java.lang.reflect.Field;
import java.lang.reflect.Method;
import java.lang.reflect.Modifier;
import java.nio.file.Files;
import java.nio.file.Path;
import java.util.ArrayList;
import java.util.HashSet;
import java.util.List;
import java.util.Set;
import java.util.regex.Pattern;

/** What a program can see of the rules of ../shared/LANGUAGE.md, in the class and in its text. */
final class LanguageTest {
    private static final Path SOURCE = Path.of("src/main/java/ForestHouse.java");
    private static final int MAX_CLASSES = 12;
    private static final int MAX_FIELDS = 20;
    private static final int MAX_PARAMETERS = 7;
    private static final int MAX_LINES = 60;
    private static final String[] RULED_OUT = {
        "\\bfinally\\b", "\\bsynchronized\\b", "\\bassert\\b", "->", "::", "Exact\\b", "\\bpackage\\b",
        "\\bSystem\\.(?!arraycopy)", "\\bstatic \\{", "\\bhashCode\\b", "\\bRandom\\b", "\\bThread\\b",
        "\\btry \\(", "\\bgetMessage\\b", "\\bextends \\w*Exception\\b",
        "\\bcatch \\((final )?(Throwable|Error|Exception|RuntimeException|NullPointer|ArrayIndex|ArrayStore"
            + "|ClassCast|NegativeArray|Arithmetic)"
    };

    private final Check check = new Check();

    public static void main(String[] args) throws IOException {
        LanguageTest test = new LanguageTest();
        test.classes();
        test.text(Files.readString(SOURCE));
        test.check.end();
    }

    private void holds(String what, boolean so) {
        check.same(what, "true", Boolean.toString(so));
    }

    private void classes() {
        List<Class<?>> all = new ArrayList<>(List.of(ForestHouse.class));
        all.addAll(List.of(ForestHouse.class.getDeclaredClasses()));
        Set<String> face = new HashSet<>();
        for (Method method : ForestHouse.class.getMethods()) {
            face.add(method.getName());
        }
        holds("rule 11: at most twelve classes", all.size() <= MAX_CLASSES);
        for (Class<?> one : all) {
            check.about(one.getName());
            fields(one);
            methods(one, face);
        }
    }

    private void fields(Class<?> one) {
        int own = 0;
        for (Field field : one.getDeclaredFields()) {
            if (Modifier.isStatic(field.getModifiers())) {
                holds("rule 5: final: " + field.getName(), Modifier.isFinal(field.getModifiers()));
                holds("rule 5: an int: " + field.getName(), field.getType() == int.class);
            } else {
                own++;
                holds("rule 1: private: " + field.getName(), Modifier.isPrivate(field.getModifiers()));
            }
        }
        holds("rule 11: at most twenty fields", own <= MAX_FIELDS);
    }

    private void methods(Class<?> one, Set<String> face) {
        for (Method method : one.getDeclaredMethods()) {
            holds("rule 11: at most seven parameters: " + method.getName(),
                    method.getParameterCount() <= MAX_PARAMETERS);
            holds("rule 1: a name of its own: " + method.getName(),
                    Modifier.isPublic(method.getModifiers()) || !face.contains(method.getName()));
        }
    }

    private void text(String source) {
        check.about(SOURCE.toString());
        String code = source.replaceAll("(?s)/\\*.*?\\*/", "").replaceAll("//[^\n]*", "");
        for (String word : RULED_OUT) {
            holds("none of " + word, !Pattern.compile(word).matcher(code).find());
        }
        String imports = String.join(" ", code.lines().filter(line -> line.startsWith("import ")).toList());
        check.same("rule 4: what it imports", "import java.util.NoSuchElementException;", imports);
        holds("rule 6: written texts", !Pattern.compile("throw (?!new \\w+\\(\"[^\"]*\"\\);)").matcher(code).find());
        holds("characters 0 to 127", code.chars().allMatch(c -> c < 128));
        holds("rule 11: short methods", longestMethod(source) <= MAX_LINES);
    }

    /** The class's own methods stand behind four blanks, those of the classes inside it behind eight. */
    private static int longestMethod(String source) {
        int longest = 0;
        int outer = 0;
        int inner = 0;
        for (String line : source.lines().toList()) {
            outer += outer > 0 || line.matches(" {4}\\w.*\\(.*") ? 1 : 0;
            inner += inner > 0 || line.matches(" {8}\\w.*\\(.*") ? 1 : 0;
            longest = Math.max(longest, Math.max(outer, inner));
            outer = line.equals("    }") ? 0 : outer;
            inner = line.equals("    }") || line.equals("        }") ? 0 : inner;
        }
        return longest;
    }
}
