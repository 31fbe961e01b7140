import java.lang.reflect.Method;
import java.lang.reflect.Modifier;
import java.nio.file.Files;
import java.nio.file.Path;
import java.util.HashMap;
import java.util.Map;
import java.util.regex.Matcher;
import java.util.regex.Pattern;

/** README.md: its calls answer as it says; it names every call of the face and every test. */
public final class ReadmeTest {
    private static final Check CHECK = new Check();
    private static final Map<String, Method> FACE = new HashMap<>();

    private static long answer(VectorShelf shelf, String name, String arguments) throws Exception {
        String[] parts = arguments.isEmpty() ? new String[0] : arguments.split(", ");
        Object[] numbers = new Object[parts.length];
        for (int i = 0; i < parts.length; i++) numbers[i] = Integer.parseInt(parts[i]);
        return ((Number) FACE.get(name).invoke(shelf, numbers)).longValue();
    }

    private static void example(String page) throws Exception {
        Pattern call = Pattern.compile("shelf\\.([a-z]+)\\(([-0-9, ]*)\\); +// (-?[0-9]+).*");
        Pattern text = Pattern.compile("for \\(char c : \"(.*)\"\\.toCharArray\\(\\)\\) shelf\\.feed\\(c\\);");
        VectorShelf shelf = new VectorShelf();
        String code = page.substring(page.indexOf("```java\n") + 8, page.indexOf("\n```\n"));
        String[] lines = code.split("\n");
        CHECK.due("the first line makes one", lines[0].equals("VectorShelf shelf = new VectorShelf();") ? 1 : 0, 1);
        for (int i = 1; i < lines.length; i++) {
            Matcher called = call.matcher(lines[i]);
            Matcher fed = text.matcher(lines[i]);
            if (called.matches()) {
                CHECK.due("README.md: " + lines[i], answer(shelf, called.group(1), called.group(2)),
                    Long.parseLong(called.group(3)));
            } else if (fed.matches()) {
                for (char c : fed.group(1).toCharArray()) shelf.feed(c);
            } else {
                CHECK.due("README.md, a line that is no call: " + lines[i], 0, 1);
            }
        }
    }

    public static void main(String[] args) throws Exception {
        String page = Files.readString(Path.of("README.md"));
        for (Method m : VectorShelf.class.getDeclaredMethods()) {
            if (Modifier.isPublic(m.getModifiers())) FACE.put(m.getName(), m);
        }
        example(page);
        for (String name : FACE.keySet()) CHECK.due("README.md names " + name, page.contains("`" + name + "`") ? 1 : 0, 1);
        try (var files = Files.newDirectoryStream(Path.of("src/test/java"), "*Test.java")) {
            for (Path file : files) {
                String name = file.getFileName().toString().replace(".java", "");
                CHECK.due("README.md names " + name, page.contains("| `" + name + "` |") ? 1 : 0, 1);
            }
        }
        CHECK.end();
    }
}
