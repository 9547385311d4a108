import java.lang.reflect.InvocationTargetException;
import java.lang.reflect.Method;
import java.lang.reflect.Modifier;
import java.nio.file.Files;
import java.nio.file.Path;
import java.util.HashMap;
import java.util.HashSet;
import java.util.Map;
import java.util.Set;
import java.util.regex.Matcher;
import java.util.regex.Pattern;

/** What README.md says of the class: the answers of its example, and the calls of its table. */
public final class ReadmeTest {
    private static final Expect due = new Expect("ReadmeTest");
    private static final Pattern MAKING = Pattern.compile("CellSwitch x = new CellSwitch\\((\\d+)\\); +// .+");
    private static final Pattern CALL =
        Pattern.compile("(?:int (\\w+) = )?x\\.(\\w+)\\(([^)]*)\\); +// (-?\\d+)(?:: .+)?");
    private static final Pattern ROW = Pattern.compile("\\| `(\\w+)\\(([^)]*)\\)` \\| .+ \\|");

    public static void main(String[] args) throws Exception {
        String text = Files.readString(Path.of(System.getProperty("root", "."), "README.md"));
        theExample(text);
        theTable(text);
        theTests(text);
        due.end();
    }

    private static void theExample(String text) throws ReflectiveOperationException {
        Matcher block = Pattern.compile("(?s)```java\n(.*?)```").matcher(text);
        due.isTrue("there is an example", block.find());
        CellSwitch x = null;
        Map<String, Integer> names = new HashMap<>();
        for (String line : block.group(1).split("\n")) {
            Matcher making = MAKING.matcher(line);
            Matcher call = CALL.matcher(line);
            if (making.matches()) {
                x = new CellSwitch(Integer.parseInt(making.group(1)));
            } else if (call.matches() && x != null) {
                int answer = answerOf(x, call.group(2), call.group(3), names);
                due.same(line, answer, Integer.parseInt(call.group(4)));
                if (call.group(1) != null) {
                    names.put(call.group(1), answer);
                }
            } else {
                due.isTrue("a line of the example that can be run: " + line, false);
            }
        }
    }

    private static int answerOf(CellSwitch x, String name, String told, Map<String, Integer> names)
        throws ReflectiveOperationException {
        String[] words = told.isEmpty() ? new String[0] : told.split(", ");
        Class<?>[] types = new Class<?>[words.length];
        Object[] values = new Object[words.length];
        for (int i = 0; i < words.length; i++) {
            types[i] = int.class;
            values[i] = names.containsKey(words[i]) ? names.get(words[i]) : Integer.valueOf(words[i]);
        }
        try {
            return (int) CellSwitch.class.getMethod(name, types).invoke(x, values);
        } catch (InvocationTargetException thrown) {
            due.isTrue(name + "(" + told + ") does not throw " + thrown.getCause(), false);
            return Integer.MIN_VALUE;
        }
    }

    /** Each public method of the class has a row of the table, with as many parameters, and no other has. */
    private static void theTable(String text) {
        Set<String> told = new HashSet<>();
        Matcher row = ROW.matcher(text);
        while (row.find()) {
            int parameters = row.group(2).isEmpty() ? 0 : row.group(2).split(", ").length;
            due.isTrue("told once: " + row.group(1), told.add(row.group(1) + " " + parameters));
        }
        Set<String> face = new HashSet<>();
        for (Method method : CellSwitch.class.getDeclaredMethods()) {
            if (Modifier.isPublic(method.getModifiers())) {
                face.add(method.getName() + " " + method.getParameterCount());
            }
        }
        due.isTrue("the table tells " + told + ", the class has " + face, told.equals(face));
    }

    private static void theTests(String text) throws Exception {
        due.isTrue("how to run the tests", text.contains("bash .ci/run"));
        try (var files = Files.newDirectoryStream(Path.of(System.getProperty("root", "."), "tests"), "*Test.java")) {
            for (Path file : files) {
                String name = file.getFileName().toString().replace(".java", "");
                due.isTrue("told: " + name, text.contains("| " + name + " |"));
            }
        }
    }
}
