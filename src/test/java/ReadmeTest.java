import java.io.IOException;
import java.lang.reflect.Method;
import java.lang.reflect.Modifier;
import java.nio.file.DirectoryStream;
import java.nio.file.Files;
import java.nio.file.Path;
import java.util.regex.Matcher;
import java.util.regex.Pattern;

/** README.md says how to use the class: its examples answer as it says, and nothing is left out. */
public final class ReadmeTest {
    private static final Pattern CALL = Pattern.compile("x\\.(\\w+)\\((.*)\\);\\s*// (-?\\d+): \\S.*");
    private static final int OPS = 11;
    private static final int FORMS = 7;
    private static final Check CHECK = new Check();

    private ShapeForms x;
    private int calls;

    public static void main(String[] args) throws Exception {
        Path root = Path.of(args[0]).toAbsolutePath().getParent().resolve("../../..").normalize();
        String text = Files.readString(root.resolve("README.md"));
        new ReadmeTest().examplesAnswerAsTold(text);
        callsAreTold(text);
        rowsAreTold(text, "op", OPS);
        rowsAreTold(text, "form", FORMS);
        testsAreTold(text, root.resolve("src/test/java"));
        CHECK.end();
    }

    private void examplesAnswerAsTold(String text) throws ReflectiveOperationException {
        boolean inside = false;
        for (String line : text.split("\n")) {
            if (line.startsWith("```")) {
                inside = line.equals("```java");
            } else if (inside && !line.isBlank()) {
                example(line);
            }
        }
        CHECK.isTrue("README.md has examples", calls > 0);
    }

    private void example(String line) throws ReflectiveOperationException {
        if (line.equals("ShapeForms x = new ShapeForms();")) {
            x = new ShapeForms();
            return;
        }
        Matcher call = CALL.matcher(line);
        CHECK.isTrue("README.md has a call and its answer: " + line, call.matches());
        if (call.matches() && x != null) {
            calls++;
            String[] parts = call.group(2).isEmpty() ? new String[0] : call.group(2).split(", ");
            CHECK.due("README.md, " + line, ask(call.group(1), parts), Integer.parseInt(call.group(3)));
        }
    }

    private int ask(String name, String[] parts) throws ReflectiveOperationException {
        for (Method method : ShapeForms.class.getDeclaredMethods()) {
            if (method.getName().equals(name) && method.getParameterCount() == parts.length) {
                Class<?>[] types = method.getParameterTypes();
                Object[] numbers = new Object[parts.length];
                for (int i = 0; i < parts.length; i++) {
                    numbers[i] = types[i] == boolean.class
                        ? (Object) Boolean.valueOf(parts[i]) : (Object) Integer.valueOf(parts[i]);
                }
                return (Integer) method.invoke(x, numbers);
            }
        }
        throw new NoSuchMethodException(name);
    }

    private static void callsAreTold(String text) {
        for (Method method : ShapeForms.class.getDeclaredMethods()) {
            if (Modifier.isPublic(method.getModifiers())) {
                CHECK.isTrue("README.md tells " + method.getName() + " and its numbers", Pattern.compile(
                    "^\\| `" + method.getName() + "\\(" + names(method.getParameterCount()) + "\\)` \\| ",
                    Pattern.MULTILINE).matcher(text).find());
                CHECK.isTrue("README.md has an example of " + method.getName(),
                    text.contains("\nx." + method.getName() + "("));
            }
        }
    }

    private static String names(int many) {
        return many == 0 ? "" : "\\w+" + ", \\w+".repeat(many - 1);
    }

    private static void rowsAreTold(String text, String head, int many) {
        int from = text.indexOf("\n| " + head + " | ");
        CHECK.isTrue("README.md has a table of each " + head, from >= 0);
        String table = from < 0 ? "" : text.substring(from).split("\n\n")[0];
        for (int i = 0; i < many; i++) {
            CHECK.isTrue("README.md tells " + head + " " + i, table.contains("\n| " + i + " | "));
        }
        CHECK.isTrue("README.md tells no other " + head, table.trim().split("\n").length == many + 2);
    }

    private static void testsAreTold(String text, Path tests) throws IOException {
        CHECK.isTrue("README.md tells .ci/run", text.contains("\n    .ci/run\n"));
        try (DirectoryStream<Path> files = Files.newDirectoryStream(tests, "*Test.java")) {
            for (Path file : files) {
                String name = file.getFileName().toString().replace(".java", "");
                CHECK.isTrue("README.md tells " + name, text.contains("\n| `" + name + "` | "));
            }
        }
    }
}
