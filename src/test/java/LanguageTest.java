import java.io.IOException;
import java.lang.reflect.Field;
import java.lang.reflect.Method;
import java.lang.reflect.Modifier;
import java.nio.file.Files;
import java.nio.file.Path;
import java.util.ArrayList;
import java.util.Arrays;
import java.util.List;
import java.util.Set;
import java.util.TreeSet;
import java.util.regex.Matcher;
import java.util.regex.Pattern;

/** Such rules of LANGUAGE.md as can be seen in the program's text or in its classes, each by its number. */
public final class LanguageTest extends Bench {
    private static final Path PROGRAM = Path.of("src/main/java/MovedRegisters.java");

    private static final int MOST_DEEP = 8;

    private final String text;
    private final List<Written> written = new ArrayList<>();

    private LanguageTest() throws IOException {
        super("LanguageTest");
        text = bare(Files.readString(PROGRAM));
    }

    public static void main(String[] args) throws IOException {
        LanguageTest test = new LanguageTest();
        test.oneFile();
        test.names();
        test.types();
        test.library();
        test.staticFields();
        test.exceptions();
        test.sizes();
        test.methodLengths();
        test.callDepths();
        test.due.end();
    }

    /** The program without its comments. */
    private static String bare(String source) {
        return source.replaceAll("(?s)/\\*.*?\\*/", "").replaceAll("//[^\n]*", "");
    }

    private static List<Class<?>> classes() {
        List<Class<?>> all = new ArrayList<>(Arrays.asList(MovedRegisters.class.getDeclaredClasses()));
        all.add(MovedRegisters.class);
        return all;
    }

    private void oneFile() throws IOException {
        try (java.util.stream.Stream<Path> files = Files.list(PROGRAM.getParent())) {
            due.same("one file", "[" + PROGRAM + "]", () -> files.toList());
        }
        due.same("no package line", "[]", () -> found("\\bpackage\\b"));
    }

    /** Rule 1: "No private method bears the name of a public one." */
    private void names() {
        Set<String> face = new TreeSet<>();
        for (Method method : MovedRegisters.class.getDeclaredMethods()) {
            if (Modifier.isPublic(method.getModifiers())) {
                face.add(method.getName());
            }
        }
        for (Class<?> type : classes()) {
            for (Method method : type.getDeclaredMethods()) {
                boolean isFace = Modifier.isPublic(method.getModifiers());
                due.isTrue("rule 1: " + method, isFace || !face.contains(method.getName()));
            }
        }
    }

    /** Rule 3, for the types that fields have: numbers, rows of them, tables of them, own classes. */
    private void types() {
        for (Class<?> type : classes()) {
            for (Field field : type.getDeclaredFields()) {
                Class<?> core = field.getType();
                int dimensions = 0;
                while (core.isArray()) {
                    core = core.getComponentType();
                    dimensions++;
                }
                boolean own = core.getName().startsWith("MovedRegisters") || core == String.class;
                due.isTrue("rule 3: " + field, core.isPrimitive() && dimensions <= 2 || own && dimensions <= 1);
            }
        }
    }

    /** Rules 2, 4, 6 and 13: nothing from outside but what the program needs of the list. */
    private void library() {
        due.same("rule 4: imports", "[import java.util.NoSuchElementException]", () -> found("import [\\w.]+"));
        due.same("rule 4: calls of the library", "[Math.max, Math.min, System.arraycopy]",
            () -> found("\\b(?:Math|System|Arrays|Integer|Long|Thread|Runtime|String|List)\\.\\w+"));
        due.same("rule 2: no lambda, no method reference", "[]", () -> found("->|::"));
        due.same("rules 2, 3, 6: words that are not in this part of Java", "[]", () -> found("\\b(?:finally|"
            + "synchronized|assert|native|volatile|transient|hashCode|equals|toString|getMessage|Object|Random|"
            + "double|float|instanceof|catch|goto|yield|var)\\b"));
        due.same("rule 9: no loop without an end in its own lines", "[]", () -> found("while \\(true\\)|for \\(\\s*;"));
    }

    /** Rule 5: "Static fields are final: constants of int, long, boolean, char or String" and rows written out. */
    private void staticFields() {
        for (Class<?> type : classes()) {
            for (Field field : type.getDeclaredFields()) {
                if (Modifier.isStatic(field.getModifiers())) {
                    due.isTrue("rule 5: " + field, Modifier.isFinal(field.getModifiers()) && field.getType() == int.class);
                }
            }
        }
        due.same("rule 5: no static initialiser block", "[]", () -> found("\\bstatic \\{"));
    }

    /** Rule 6: "throw new E() or throw new E("a written text")". */
    private void exceptions() {
        due.same("rule 6: what is thrown", "[throw new IllegalArgumentException();, throw new IllegalStateException();, "
            + "throw new NoSuchElementException();, throw new UnsupportedOperationException();]",
            () -> found("\\bthrow [^;]*;"));
    }

    /** Rule 11, but for the length of methods. */
    private void sizes() {
        due.isTrue("rule 11: at most twelve classes", classes().size() <= 12);
        for (Class<?> type : classes()) {
            long fields = Arrays.stream(type.getDeclaredFields()).filter(f -> !Modifier.isStatic(f.getModifiers())).count();
            due.isTrue("rule 11: fields of " + type, fields <= 20);
            for (Method method : type.getDeclaredMethods()) {
                due.isTrue("rule 11: parameters of " + method, method.getParameterCount() <= 7);
            }
        }
    }

    /** Rule 11: "Methods stay short (some sixty lines)". */
    private void methodLengths() {
        for (Written method : methods()) {
            int length = method.body.split("\n").length;
            due.isTrue("rule 11: " + length + " lines: " + method.name, length <= 60);
        }
        long there = classes().stream().mapToLong(type -> type.getDeclaredMethods().length).sum();
        due.isTrue("rule 11: all methods are looked at, and the constructor", methods().size() == there + 1);
    }

    /** Rules 8 and 11: no recursion here, so "calls .. go at most eight deep" is all there is to say. */
    private void callDepths() {
        for (Written method : methods()) {
            int depth = depth(method.name, 1);
            due.isTrue("rule 11: " + depth + " deep: " + method.name, depth <= MOST_DEEP);
        }
    }

    /** Methods of one name are taken for one, so this tells too much rather than too little; recursion as endless. */
    private int depth(String name, int level) {
        int deepest = level;
        for (Written method : methods()) {
            if (level > MOST_DEEP || !method.name.equals(name)) {
                continue;
            }
            for (Written other : methods()) {
                if (Pattern.compile("\\b" + other.name + "\\(").matcher(method.body).find()) {
                    deepest = Math.max(deepest, depth(other.name, level + 1));
                }
            }
        }
        return deepest;
    }

    /** A method as it stands in the program: its name, and what comes behind its parameters. */
    private static final class Written {
        final String name;
        final String body;

        Written(String name, String body) {
            this.name = name;
            this.body = body;
        }
    }

    /** From each line with which a method begins to the brace at its own depth. */
    private List<Written> methods() {
        if (written.isEmpty()) {
            Matcher method = Pattern.compile("(?ms)^( {4}| {8})\\w[^=;{}(]*?(\\w+)\\([^;{}]*\\{\\n(.*?)^\\1\\}$").matcher(text);
            while (method.find()) {
                written.add(new Written(method.group(2), method.group(3)));
            }
        }
        return written;
    }

    /** What a pattern finds in the program, each once. */
    private Set<String> found(String pattern) {
        Set<String> all = new TreeSet<>();
        Matcher matcher = Pattern.compile(pattern).matcher(text);
        while (matcher.find()) {
            all.add(matcher.group());
        }
        return all;
    }
}
