import java.lang.reflect.Field;
import java.lang.reflect.Member;
import java.lang.reflect.Method;
import java.lang.reflect.Modifier;
import java.nio.file.Files;
import java.nio.file.Path;
import java.util.ArrayList;
import java.util.List;
import java.util.Set;
import java.util.TreeSet;
import java.util.regex.Matcher;
import java.util.regex.Pattern;

/** The face as the document writes it, and what LANGUAGE.md leaves of Java, as far as it can be seen from here. */
public final class FaceTest {
    private static final Check CHECK = new Check();
    private static final Path DOC = Path.of("../shared/DOC.md");
    private static final Path SOURCE = Path.of("src/main/java/VectorShelf.java");

    private static String shape(Method m) {
        StringBuilder text = new StringBuilder(m.getReturnType() + " " + m.getName());
        for (Class<?> p : m.getParameterTypes()) text.append(' ').append(p);
        return text.toString();
    }

    private static Set<String> shapesOfDocument(String doc) {
        Set<String> shapes = new TreeSet<>();
        Matcher m = Pattern.compile("    public (int|long) ([a-z]+)\\(([^)]*)\\);").matcher(doc);
        while (m.find()) {
            StringBuilder text = new StringBuilder(m.group(1) + " " + m.group(2));
            for (String p : m.group(3).isEmpty() ? new String[0] : m.group(3).split(", ")) {
                text.append(' ').append(p.split(" ")[0]);
            }
            shapes.add(text.toString());
        }
        return shapes;
    }

    private static void face(String doc) {
        Set<String> shapes = new TreeSet<>();
        Set<String> names = new TreeSet<>();
        for (Method m : VectorShelf.class.getDeclaredMethods()) {
            if (Modifier.isPublic(m.getModifiers())) {
                shapes.add(shape(m));
                names.add(m.getName());
            }
        }
        Set<String> due = shapesOfDocument(doc);
        CHECK.due("methods of the document", due.size(), 43);
        CHECK.due("methods alike: " + shapes, shapes.equals(due) ? 1 : 0, 1);
        CHECK.due("constructors", VectorShelf.class.getConstructors().length, 1);
        CHECK.due("final", Modifier.isFinal(VectorShelf.class.getModifiers()) ? 1 : 0, 1);
        Set<String> constants = new TreeSet<>();
        for (Field f : VectorShelf.class.getFields()) constants.add(f.getType() + " " + f.getName());
        CHECK.due("constants: " + constants,
            constants.equals(Set.of("int NONE", "int BAD", "int STATE", "int FULL", "long NO")) ? 1 : 0, 1);
        List<Member> members = new ArrayList<>(List.of(VectorShelf.class.getDeclaredMethods()));
        members.addAll(List.of(VectorShelf.class.getDeclaredFields()));
        for (Member m : members) {
            boolean isClosed = Modifier.isPublic(m.getModifiers()) || Modifier.isPrivate(m.getModifiers());
            CHECK.due(m.getName() + " is public or private", isClosed ? 1 : 0, 1);
        }
        for (Class<?> c : VectorShelf.class.getDeclaredClasses()) {
            CHECK.due(c + " is static", Modifier.isStatic(c.getModifiers()) ? 1 : 0, 1);
            for (Method m : c.getDeclaredMethods()) {
                CHECK.due(c + " has its own name for " + m.getName(), names.contains(m.getName()) ? 1 : 0, 0);
            }
        }
    }

    private static void sizes() {
        List<Class<?>> classes = new ArrayList<>(List.of(VectorShelf.class.getDeclaredClasses()));
        classes.add(VectorShelf.class);
        CHECK.due("some twelve classes", classes.size() <= 12 ? 1 : 0, 1);
        for (Class<?> c : classes) {
            int fields = 0;
            for (Field f : c.getDeclaredFields()) {
                if (Modifier.isStatic(f.getModifiers())) {
                    CHECK.due(f + " is final", Modifier.isFinal(f.getModifiers()) ? 1 : 0, 1);
                } else {
                    fields++;
                }
            }
            CHECK.due(c + " has some twenty fields", fields <= 20 ? 1 : 0, 1);
            for (Method m : c.getDeclaredMethods()) {
                CHECK.due(m + " takes seven at most", m.getParameterCount() <= 7 ? 1 : 0, 1);
            }
        }
    }

    private static void words(String source) {
        String[] banned = {"\\bimport\\b", "\\bpackage\\b", "->", "::", "\\bcatch\\b", "\\bthrow", "\\bfinally\\b",
            "\\bsynchronized\\b", "\\bassert\\b", "Exact\\b", "\\bdouble\\b", "\\bFloat\\b", "\\bDouble\\b", "\\bObject\\b",
            "\\bhashCode\\b", "\\btoString\\b", "\\bMAX_VALUE\\b", "\\bMIN_VALUE\\b", "\\bSystem\\.(?!arraycopy)",
            "\\bMath\\.(?!abs|max|min|floorDiv)", "\\bInteger\\.(?!bitCount)", "[^\\x00-\\x7f]", "\" *\\+", "\\+ *\""};
        for (String word : banned) {
            CHECK.due("no " + word, Pattern.compile(word).matcher(source).find() ? 1 : 0, 0);
        }
    }

    private static void longMethods(String source) {
        int from = 0;
        String[] lines = source.split("\n");
        for (int i = 0; i < lines.length; i++) {
            if (lines[i].matches(" {4}(?: {4})?[a-z].*\\) \\{")) from = i;
            if (lines[i].matches(" {4}(?: {4})?\\}")) {
                CHECK.due("line " + (from + 1) + ": a method of some sixty lines", i - from < 60 ? 1 : 0, 1);
            }
        }
    }

    public static void main(String[] args) throws Exception {
        face(Files.readString(DOC));
        sizes();
        String source = Files.readString(SOURCE);
        words(source);
        longMethods(source);
        CHECK.end();
    }
}
