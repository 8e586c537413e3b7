import java.io.IOException;
import java.lang.reflect.Field;
import java.lang.reflect.Method;
import java.lang.reflect.Modifier;
import java.nio.file.Files;
import java.nio.file.Path;
import java.util.List;
import java.util.Set;
import java.util.TreeSet;

/** The rules of LANGUAGE.md that can be seen from the file and from its compiled classes. */
public final class SourceRulesTest {
    private static final Set<String> FACE = Set.of("feed", "tables", "rows", "ask", "question", "width", "row", "cell", "holds", "found",
        "tie", "joining", "place", "looks", "asked", "said", "choose", "parts", "left", "near", "meant", "judged", "person", "hide",
        "offered", "lets", "count");
    private static final String[] NEVER = {"package ", "->", "::", "synchronized", "assert ", "finally", "try ", "catch", "Exact(", "static {",
        "System.out", "Object ", "String", "double", "float", "Math.random", "Thread", "instanceof", "\"", "extends", "implements"};

    public static void main(String[] args) throws IOException {
        text(Files.readAllLines(Path.of("src/main/java/WordsAndRows.java")));
        face();
        for (Class<?> inner : WordsAndRows.class.getDeclaredClasses()) inside(inner);
        Check.due("classes are some twelve", WordsAndRows.class.getDeclaredClasses().length <= 12, true);
        fields(WordsAndRows.class);
        Check.end();
    }

    private static void text(List<String> lines) {
        int length = 0;
        for (int i = 0; i < lines.size(); i++) {
            String line = lines.get(i);
            String code = line.replaceAll("/\\*\\*.*\\*/", "").replaceAll("//.*", "");
            for (String word : NEVER) Check.due("line " + (i + 1) + " has " + word, code.contains(word), false);
            if (code.startsWith("import ")) {
                boolean fine = code.equals("import java.util.Arrays;") || code.equals("import java.util.NoSuchElementException;");
                Check.due("line " + (i + 1) + " imports what it may", fine, true);
            }
            boolean opens = code.matches(" {4,8}[a-zA-Z].*\\) (throws \\w+ )?\\{");
            length = opens ? 1 : length + 1;
            if (code.matches(" {4,8}\\}")) Check.due("the method that ends in line " + (i + 1) + " is short", length <= 60, true);
        }
    }

    private static void face() {
        Set<String> open = new TreeSet<>();
        for (Method m : WordsAndRows.class.getDeclaredMethods()) {
            if (!Modifier.isPrivate(m.getModifiers())) {
                open.add(m.getName());
                Check.due(m.getName() + " is public", Modifier.isPublic(m.getModifiers()), true);
            }
            boolean both = Modifier.isPrivate(m.getModifiers()) && FACE.contains(m.getName());
            Check.due("a private method bears the name " + m.getName(), both, false);
            Check.due("parameters of " + m.getName(), m.getParameterCount() <= 7, true);
        }
        Check.due("the face", open.toString(), new TreeSet<>(FACE).toString());
        Check.due("the class is final", Modifier.isFinal(WordsAndRows.class.getModifiers()), true);
        for (Field f : WordsAndRows.class.getDeclaredFields()) {
            boolean open1 = !Modifier.isPrivate(f.getModifiers());
            if (open1) Check.due("an open field", f.getName(), "NONE");
        }
        Check.due("NONE", WordsAndRows.NONE, -1);
    }

    private static void inside(Class<?> inner) {
        Check.due(inner.getName() + " is static", Modifier.isStatic(inner.getModifiers()), true);
        for (Method m : inner.getDeclaredMethods()) {
            Check.due(inner.getName() + "." + m.getName() + " bears a name of the face", FACE.contains(m.getName()), false);
            Check.due("parameters of " + m.getName(), m.getParameterCount() <= 7, true);
        }
        fields(inner);
    }

    private static void fields(Class<?> type) {
        int own = 0;
        for (Field f : type.getDeclaredFields()) {
            if (Modifier.isStatic(f.getModifiers())) {
                Check.due(type.getName() + "." + f.getName() + " is final", Modifier.isFinal(f.getModifiers()), true);
            } else {
                own++;
            }
        }
        Check.due(type.getName() + " has some twenty fields", own <= 20, true);
    }
}
