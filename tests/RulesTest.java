import java.lang.reflect.Constructor;
import java.lang.reflect.Field;
import java.lang.reflect.Method;
import java.lang.reflect.Modifier;
import java.nio.file.Files;
import java.nio.file.Path;
import java.util.Set;
import java.util.TreeSet;
import java.util.regex.Matcher;
import java.util.regex.Pattern;

/** The face of the document, and those rules of LANGUAGE.md that a look at the file can tell. */
public final class RulesTest {
    private static final Expect due = new Expect("RulesTest");
    private static final Set<String> FACE = Set.of("feed", "end", "tick", "call", "hang", "policy", "send", "about", "calls",
        "received", "byteOf", "link", "line", "reset", "quit", "damage", "direction", "header", "crc", "count");

    public static void main(String[] args) throws Exception {
        theFace();
        theClassesInside();
        theText();
        due.end();
    }

    private static void theFace() {
        due.isTrue("public and final", Modifier.isFinal(CellSwitch.class.getModifiers()));
        Set<String> methods = new TreeSet<>();
        for (Method method : CellSwitch.class.getDeclaredMethods()) {
            if (Modifier.isPublic(method.getModifiers())) {
                due.isTrue("once: " + method.getName(), methods.add(method.getName()));
                due.isTrue("int: " + method.getName(), method.getReturnType() == int.class);
            } else {
                due.isTrue("private: " + method.getName(), Modifier.isPrivate(method.getModifiers()));
                due.isTrue("a name of its own: " + method.getName(), !FACE.contains(method.getName()));
            }
        }
        due.isTrue("all methods: " + methods, methods.equals(new TreeSet<>(FACE)));
        for (Field field : CellSwitch.class.getDeclaredFields()) {
            boolean constant = Set.of("BAD", "NONE", "FULL").contains(field.getName());
            due.isTrue("field " + field.getName(), Modifier.isPublic(field.getModifiers()) == constant
                && (constant || Modifier.isPrivate(field.getModifiers())));
        }
        Constructor<?>[] constructors = CellSwitch.class.getDeclaredConstructors();
        due.same("constructors", constructors.length, 1);
        due.isTrue("public", Modifier.isPublic(constructors[0].getModifiers()));
    }

    private static void theClassesInside() {
        Class<?>[] inside = CellSwitch.class.getDeclaredClasses();
        due.isTrue("some twelve classes", inside.length <= 12);
        for (Class<?> c : inside) {
            due.isTrue("static: " + c.getName(), Modifier.isStatic(c.getModifiers()));
            int fields = 0;
            for (Field field : c.getDeclaredFields()) {
                boolean isStatic = Modifier.isStatic(field.getModifiers());
                due.isTrue("static and final: " + field, !isStatic || Modifier.isFinal(field.getModifiers()));
                fields += isStatic ? 0 : 1;
            }
            due.isTrue("some twenty fields: " + c.getName() + " " + fields, fields <= 22);
            for (Method method : c.getDeclaredMethods()) {
                due.isTrue("seven parameters: " + method, method.getParameterCount() <= 7);
                due.isTrue("a name of its own: " + method, !FACE.contains(method.getName()));
            }
        }
    }

    private static void theText() throws Exception {
        Path file = Path.of(System.getProperty("source", "src/main/java/CellSwitch.java"));
        String text = Files.readString(file);
        String code = text.replaceAll("(?s)/\\*.*?\\*/", "").replaceAll("//[^\n]*", "");
        String[] never = {"throw", "throws", "try", "catch", "synchronized", "assert", "package", "Exact", "System\\.out",
            "Random", "nanoTime", "currentTimeMillis", "Thread", "String", "@\\w+", "->", "::", "hashCode", "equals"};
        for (String word : never) {
            Matcher matcher = Pattern.compile(word.startsWith("@") || word.startsWith("-") || word.startsWith(":")
                ? word : "\\b" + word + "\\b").matcher(code);
            due.isTrue("no " + word, !matcher.find());
        }
        Matcher imports = Pattern.compile("import ([\\w.]+);").matcher(code);
        while (imports.find()) {
            due.isTrue("import " + imports.group(1),
                Set.of("java.util.ArrayList", "java.util.Arrays").contains(imports.group(1)));
        }
        due.isTrue("ends on a line", text.endsWith("}\n"));
        methodsAreShort(code);
    }

    /** Rule 11: some sixty lines. A method begins on a line that ends with ") {" inside a class, and ends at its brace. */
    private static void methodsAreShort(String code) {
        Pattern head = Pattern.compile("( {4}| {8})(?! |if\\b|for\\b|while\\b|switch\\b|else\\b)[\\w<>\\[\\] ]+\\([^;]*\\) \\{");
        String[] lines = code.split("\n");
        int methods = 0;
        for (int i = 0; i < lines.length; i++) {
            Matcher matcher = head.matcher(lines[i]);
            if (!matcher.matches()) {
                continue;
            }
            int end = i;
            while (end < lines.length && !lines[end].equals(matcher.group(1) + "}")) {
                end++;
            }
            due.isTrue("sixty lines at most:" + lines[i], end - i < 60);
            methods++;
        }
        due.isTrue("methods were seen", methods > 80);
    }
}
