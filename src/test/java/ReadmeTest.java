import java.io.IOException;
import java.lang.reflect.InvocationTargetException;
import java.lang.reflect.Method;
import java.nio.file.Files;
import java.nio.file.Path;
import java.util.ArrayList;
import java.util.List;
import java.util.Set;
import java.util.TreeSet;
import java.util.regex.Matcher;
import java.util.regex.Pattern;
import java.util.stream.Stream;

/** What README.md says: its examples answer so, and what it names is there. Runs in the project's directory. */
final class ReadmeTest {
    private static final Path TESTS = Path.of("src/test/java");
    private static final String NEW_DESK = "ReleaseDesk desk = new ReleaseDesk();";
    // A call, its answer, and after a colon what that means.
    private static final Pattern CALL = Pattern.compile("desk\\.(\\w+)\\((.*?)\\); +// ([^:]+)(?:: (.*))?");
    private static final Pattern QUOTED = Pattern.compile("\"(.*)\"");
    private static final Pattern CLASS_NAME = Pattern.compile("`((?!Test`)[A-Z][a-z]\\w*)`");

    private final Check check = new Check();
    private final Set<String> called = new TreeSet<>();
    private ReleaseDesk desk;

    public static void main(String[] args) throws IOException, ReflectiveOperationException {
        ReadmeTest test = new ReadmeTest();
        String readme = Files.readString(Path.of("README.md"));
        test.examples(readme);
        test.names(readme);
        test.command(readme);
        test.check.end();
    }

    private void examples(String readme) throws ReflectiveOperationException {
        for (String line : linesOfExamples(readme)) {
            Matcher call = CALL.matcher(line);
            if (line.equals(NEW_DESK)) {
                desk = new ReleaseDesk();
            } else if (call.matches()) {
                example(line, call);
            } else {
                check.text("README.md", line, "a call with its answer");
            }
        }
        Set<String> face = new TreeSet<>();
        for (Method method : ReleaseDesk.class.getMethods()) {
            if (method.getDeclaringClass() == ReleaseDesk.class) {
                face.add(method.getName());
            }
        }
        check.text("the calls in the examples", called.toString(), face.toString());
    }

    private static List<String> linesOfExamples(String readme) {
        List<String> lines = new ArrayList<>();
        boolean inside = false;
        for (String line : readme.split("\n")) {
            if (line.startsWith("```")) {
                inside = line.equals("```java");
            } else if (inside) {
                lines.add(line);
            }
        }
        return lines;
    }

    private void example(String line, Matcher call) throws ReflectiveOperationException {
        String name = call.group(1);
        called.add(name);
        Object got = answer(name, call.group(2).isEmpty() ? new String[0] : call.group(2).split(", "));
        check.text(line, String.valueOf(got), due(call.group(3)));
        if (name.equals("report") && call.group(4) != null) {
            Matcher told = QUOTED.matcher(call.group(4));
            if (told.find()) {
                check.text(line, Told.report(desk, call.group(2).startsWith("true")),
                    told.group(1).replace("\\n", "\n"));
            }
        }
    }

    private Object answer(String name, String[] words) throws ReflectiveOperationException {
        for (Method method : ReleaseDesk.class.getMethods()) {
            Class<?>[] types = method.getParameterTypes();
            if (method.getName().equals(name) && types.length == words.length) {
                Object[] values = new Object[words.length];
                for (int i = 0; i < words.length; i++) {
                    values[i] = value(types[i], words[i]);
                }
                return call(method, values);
            }
        }
        return "there is no such call";
    }

    private Object call(Method method, Object[] values) throws ReflectiveOperationException {
        try {
            return method.invoke(desk, values);
        } catch (InvocationTargetException thrown) {
            return thrown.getCause();
        }
    }

    private static Object value(Class<?> type, String word) {
        if (type == boolean.class) {
            return Boolean.valueOf(word);
        }
        if (type == double.class) {
            return Double.valueOf(word);
        }
        return word.startsWith("'") ? word.charAt(1) : Integer.parseInt(word);
    }

    private static String due(String word) {
        switch (word) {
            case "REFUSED": return String.valueOf(ReleaseDesk.REFUSED);
            case "NONE": return String.valueOf(ReleaseDesk.NONE);
            case "FULL": return String.valueOf(ReleaseDesk.FULL);
            default: return word.startsWith("'") ? String.valueOf((int) word.charAt(1)) : word;
        }
    }

    /** Each class that is named is one inside the program, or one of the tests. */
    private void names(String readme) {
        Matcher name = CLASS_NAME.matcher(readme);
        while (name.find()) {
            check.yes("there is a class " + name.group(1),
                Files.exists(TESTS.resolve(name.group(1) + ".java")) || isInside(name.group(1)));
        }
    }

    private static boolean isInside(String name) {
        for (Class<?> inside : ReleaseDesk.class.getDeclaredClasses()) {
            if (inside.getSimpleName().equals(name)) {
                return true;
            }
        }
        return false;
    }

    private void command(String readme) throws IOException {
        check.yes("the command is named", readme.contains("```sh\n.ci/run\n```"));
        check.yes("the command can be run", Files.isExecutable(Path.of(".ci/run")));
        List<Path> files;
        try (Stream<Path> found = Files.walk(TESTS)) {
            files = found.filter(Files::isRegularFile).toList();
        }
        for (Path file : files) {
            if (Files.readString(file).contains(" void main(")) {
                check.yes(file + " is found by the command",
                    file.getParent().equals(TESTS) && file.toString().endsWith("Test.java"));
            }
        }
    }
}
