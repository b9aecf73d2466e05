import java.io.IOException;
import java.lang.reflect.Method;
import java.lang.reflect.Modifier;
import java.net.URL;
import java.net.URLClassLoader;
import java.nio.file.Files;
import java.nio.file.Path;
import java.util.ArrayList;
import java.util.Arrays;
import java.util.List;
import java.util.Set;
import java.util.TreeSet;
import java.util.regex.Matcher;
import java.util.regex.Pattern;
import java.util.stream.Collectors;
import java.util.stream.Stream;
import javax.tools.ToolProvider;

/** What README.md says is true: its example, its calls, its classes, its tests and its paths. */
public final class ReadmeTest extends Bench {
    /** A line of the example whose comment begins with the answer that is due. */
    private static final Pattern ANSWERED =
        Pattern.compile("(?:int (\\w+) = )?(circuit\\.\\w+\\(.*\\)); *// (true|false|-?\\d+)(?:: .*)?");

    private final String text;

    private ReadmeTest() throws IOException {
        super("ReadmeTest");
        text = Files.readString(Path.of("README.md"));
    }

    public static void main(String[] args) throws Exception {
        ReadmeTest test = new ReadmeTest();
        test.example();
        test.calls();
        test.classes();
        test.tests();
        test.paths();
        test.due.end();
    }

    private void example() throws Exception {
        List<String> want = new ArrayList<>();
        StringBuilder body = new StringBuilder();
        for (String line : part("```java\n", "```").split("\n")) {
            Matcher answered = ANSWERED.matcher(line);
            if (!answered.matches()) {
                body.append(line).append('\n');
                continue;
            }
            want.add(answered.group(2) + " = " + answered.group(3));
            String variable = answered.group(1);
            String answer = variable == null ? answered.group(2) : variable;
            body.append(variable == null ? "" : line + "\n");
            body.append("answers.add(\"" + answered.group(2) + " = \" + " + answer + ");\n");
        }
        due.isTrue("the example tells answers", want.size() > 10);
        due.same("the example", want, () -> run(body.toString()));
    }

    /** The lines as a method, compiled as a reader would compile them. */
    private static List<String> run(String body) {
        List<String> answers = new ArrayList<>();
        try {
            Path room = Files.createTempDirectory("readme");
            Path source = room.resolve("ReadmeExample.java");
            Files.writeString(source, "public final class ReadmeExample {\n"
                + "public static void run(java.util.List<String> answers) {\n" + body + "}\n}\n");
            String[] arguments = {"-cp", System.getProperty("java.class.path"), "-d", room.toString(), source.toString()};
            int failed = ToolProvider.getSystemJavaCompiler().run(null, null, null, arguments);
            if (failed == 0) {
                load(room, answers);
            }
            for (String name : new String[] {"ReadmeExample.java", "ReadmeExample.class"}) {
                Files.deleteIfExists(room.resolve(name));
            }
            Files.delete(room);
        } catch (IOException | ReflectiveOperationException e) {
            throw new IllegalStateException(e);
        }
        return answers;
    }

    private static void load(Path room, List<String> answers) throws IOException, ReflectiveOperationException {
        try (URLClassLoader loader = new URLClassLoader(new URL[] {room.toUri().toURL()})) {
            loader.loadClass("ReadmeExample").getMethod("run", List.class).invoke(null, answers);
        }
    }

    /** Each call of the face has its row, with as many arguments and with the exceptions of its throws clause. */
    private void calls() {
        Set<String> face = new TreeSet<>();
        for (Method method : MovedRegisters.class.getDeclaredMethods()) {
            if (Modifier.isPublic(method.getModifiers())) {
                String thrown = Arrays.stream(method.getExceptionTypes()).map(Class::getSimpleName)
                    .collect(Collectors.joining(", "));
                face.add(method.getName() + "/" + method.getParameterCount() + " " + thrown);
            }
        }
        Set<String> told = new TreeSet<>();
        Matcher row = Pattern.compile("(?m)^\\| `(\\w+)\\((.*?)\\)` \\|.*\\|(.*)\\|$").matcher(text);
        while (row.find()) {
            int arguments = row.group(2).isEmpty() ? 0 : row.group(2).split(", ").length;
            told.add(row.group(1) + "/" + arguments + " " + row.group(3).trim());
        }
        due.same("the calls", face, () -> told);
    }

    private void classes() {
        Set<String> inside = new TreeSet<>();
        for (Class<?> type : MovedRegisters.class.getDeclaredClasses()) {
            inside.add(type.getSimpleName());
        }
        due.same("the classes", inside, () -> listed(part("## How it is made\n", "\n## ")));
    }

    private void tests() throws IOException {
        Set<String> tests = new TreeSet<>();
        try (Stream<Path> files = Files.list(Path.of("src/test/java"))) {
            for (Path file : files.toList()) {
                String name = file.getFileName().toString().replace(".java", "");
                due.isTrue(name + " is named", text.contains("`" + name + "`"));
                if (name.endsWith("Test")) {
                    tests.add(name);
                }
            }
        }
        due.same("the tests", tests, () -> listed(text.substring(text.indexOf("## Tests\n"))));
    }

    private void paths() {
        for (String path : new String[] {"../shared/tests", "src/main/java/MovedRegisters.java", ".ci/run"}) {
            due.isTrue(path + " is named", text.contains(path));
            due.isTrue(path + " is there", Files.exists(Path.of(path)));
        }
        due.isTrue(".ci/run can be run", Files.isExecutable(Path.of(".ci/run")));
    }

    /** The names with which the points of a list begin. */
    private static Set<String> listed(String from) {
        Set<String> names = new TreeSet<>();
        Matcher point = Pattern.compile("(?m)^- `(\\w+)`:").matcher(from);
        while (point.find()) {
            names.add(point.group(1));
        }
        return names;
    }

    private String part(String from, String to) {
        int begin = text.indexOf(from) + from.length();
        return text.substring(begin, text.indexOf(to, begin));
    }
}
