import java.lang.reflect.Constructor;
import java.lang.reflect.Field;
import java.lang.reflect.Method;
import java.lang.reflect.Modifier;
import java.nio.file.Files;
import java.nio.file.Path;
import java.util.Set;
import java.util.TreeSet;

/** The public face of the document, and those rules of LANGUAGE.md that the text alone can show. */
public final class FaceTest {
    private static final int CLASSES = 12;
    private static final int FIELDS = 20;
    private static final int PARAMETERS = 7;
    private static final int LINES = 60;
    private static final Check CHECK = new Check();

    public static void main(String[] args) throws Exception {
        methodsAreTheDocuments();
        restIsHidden();
        constants();
        insideKeepsTheRules();
        if (args.length > 0) {
            sourceKeepsTheRules(Files.readString(Path.of(args[0])));
        }
        CHECK.end();
    }

    private static void methodsAreTheDocuments() {
        Set<String> want = new TreeSet<>(Set.of(
            "int op(int,int,int,int)", "int clear()", "int empty()", "int node(int)",
            "int link(int,int,int)", "int hold(int,int)", "int run()", "int told(int)",
            "int held(int)", "int of(int,int)", "int form(int,int)", "int size(int,boolean)",
            "int claim(int,int,int,int,int,boolean)", "int why()", "int count(int)"));
        Set<String> got = new TreeSet<>();
        Set<String> publicNames = new TreeSet<>();
        for (Method method : ShapeForms.class.getDeclaredMethods()) {
            if (Modifier.isPublic(method.getModifiers())) {
                got.add(signature(method));
                publicNames.add(method.getName());
            }
        }
        CHECK.isTrue("public methods are " + want + ", not " + got, want.equals(got));
        for (Method method : ShapeForms.class.getDeclaredMethods()) {
            if (!Modifier.isPublic(method.getModifiers()) && !method.isSynthetic()) {
                CHECK.isTrue(method + " is private", Modifier.isPrivate(method.getModifiers()));
                CHECK.isTrue(method + " has a name of its own", !publicNames.contains(method.getName()));
            }
        }
    }

    private static String signature(Method method) {
        StringBuilder text = new StringBuilder(method.getReturnType() + " " + method.getName() + "(");
        for (Class<?> type : method.getParameterTypes()) {
            text.append(text.charAt(text.length() - 1) == '(' ? "" : ",").append(type);
        }
        return text.append(")").toString();
    }

    private static void restIsHidden() {
        CHECK.isTrue("public and final", Modifier.isPublic(ShapeForms.class.getModifiers())
            && Modifier.isFinal(ShapeForms.class.getModifiers()));
        Constructor<?>[] constructors = ShapeForms.class.getDeclaredConstructors();
        CHECK.due("constructors", constructors.length, 1);
        CHECK.isTrue("constructor is public, without numbers",
            Modifier.isPublic(constructors[0].getModifiers()) && constructors[0].getParameterCount() == 0);
        for (Field field : ShapeForms.class.getDeclaredFields()) {
            boolean constant = Set.of("BAD", "FULL", "NONE").contains(field.getName());
            CHECK.isTrue(field + " is public or private as it should be", constant
                ? Modifier.isPublic(field.getModifiers()) : Modifier.isPrivate(field.getModifiers()));
        }
        for (Class<?> inside : ShapeForms.class.getDeclaredClasses()) {
            CHECK.isTrue(inside + " is static", Modifier.isStatic(inside.getModifiers()));
            CHECK.isTrue(inside + " is hidden", !Modifier.isPublic(inside.getModifiers())
                && !Modifier.isProtected(inside.getModifiers()));
        }
    }

    private static void constants() {
        CHECK.due("BAD", ShapeForms.BAD, -1);
        CHECK.due("FULL", ShapeForms.FULL, -3);
        CHECK.due("NONE", ShapeForms.NONE, -99999999);
    }

    // Rules 1, 2, 5 and 11 of LANGUAGE.md.
    private static void insideKeepsTheRules() {
        Class<?>[] inside = ShapeForms.class.getDeclaredClasses();
        CHECK.isTrue("some twelve classes at most", inside.length + 1 <= CLASSES);
        numbersKeepTheRules(ShapeForms.class);
        for (Class<?> own : inside) {
            numbersKeepTheRules(own);
            CHECK.isTrue(own + " has no class inside", own.getDeclaredClasses().length == 0);
            for (Method method : own.getDeclaredMethods()) {
                CHECK.isTrue(method + " has a name of its own", !isPublicName(method.getName()));
            }
        }
    }

    private static boolean isPublicName(String name) {
        for (Method method : ShapeForms.class.getDeclaredMethods()) {
            if (Modifier.isPublic(method.getModifiers()) && method.getName().equals(name)) {
                return true;
            }
        }
        return false;
    }

    private static void numbersKeepTheRules(Class<?> own) {
        int fields = 0;
        for (Field field : own.getDeclaredFields()) {
            boolean isStatic = Modifier.isStatic(field.getModifiers());
            fields += isStatic ? 0 : 1;
            CHECK.isTrue(field + " is final", !isStatic || Modifier.isFinal(field.getModifiers()));
        }
        CHECK.isTrue(own + " has some twenty fields at most", fields <= FIELDS);
        for (Method method : own.getDeclaredMethods()) {
            CHECK.isTrue(method + " takes seven numbers at most", method.getParameterCount() <= PARAMETERS);
        }
    }

    private static void methodsAreShort(String source) {
        String[] lines = source.split("\n");
        for (int i = 0; i < lines.length; i++) {
            if (lines[i].matches("( {4}| {8})\\w.*\\) \\{")) {
                String indent = lines[i].replaceAll("\\S.*", "");
                int end = i;
                while (end < lines.length && !lines[end].equals(indent + "}")) {
                    end++;
                }
                CHECK.isTrue("short: " + lines[i].trim(), end - i + 1 <= LINES);
            }
        }
    }

    private static void sourceKeepsTheRules(String source) {
        String code = source.replaceAll("(?s)/\\*.*?\\*/", " ").replaceAll("//[^\n]*", " ");
        for (String word : new String[] {"throw", "throws", "try", "catch", "finally", "synchronized",
                "assert", "import", "package", "instanceof"}) {
            CHECK.isTrue("no " + word + " in the code", !code.matches("(?s).*\\b" + word + "\\b.*"));
        }
        CHECK.isTrue("no lambda, no method reference", !code.contains("->") && !code.contains("::"));
        methodsAreShort(source);
    }
}
