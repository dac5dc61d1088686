import java.io.StringWriter;
import java.lang.reflect.Method;
import java.lang.reflect.Modifier;
import java.net.URI;
import java.net.URL;
import java.net.URLClassLoader;
import java.nio.file.Files;
import java.nio.file.Path;
import java.util.ArrayList;
import java.util.List;
import java.util.TreeSet;
import java.util.regex.Matcher;
import java.util.regex.Pattern;
import javax.tools.JavaCompiler;
import javax.tools.JavaFileObject;
import javax.tools.SimpleJavaFileObject;
import javax.tools.ToolProvider;

/** What README.md says of the use of the class holds: its examples are run, and each number in them is the answer. */
public final class ReadmeTest {
    private static final Pattern BLOCK = Pattern.compile("(?ms)^```java\\n(.*?)^```$");
    private static final Pattern CALL = Pattern.compile("^((?:x\\.|tell\\().*);\\s+// (-?\\d+)(?:[:,].*)?$");
    private static int wrong = 0, answers = 0;

    private ReadmeTest() {
    }

    private static void complain(String what) {
        wrong++;
        System.out.println("README.md: " + what);
    }

    /** Called by the examples. */
    public static void due(String call, int got, int want) {
        answers++;
        if (got != want) complain(call + " answered " + got + ", not " + want);
    }

    private static String quoted(String s) {
        return '"' + s.replace("\\", "\\\\").replace("\"", "\\\"") + '"';
    }

    /** One example as a method of its own, in which each call is held against its number. */
    private static String method(String block, int number) {
        StringBuilder code = new StringBuilder("    public static void example" + number + "() {\n");
        for (String line : block.split("\n")) {
            Matcher call = CALL.matcher(line);
            if (call.matches()) {
                code.append("        ReadmeTest.due(").append(quoted(call.group(1))).append(", ").append(call.group(1))
                    .append(", ").append(call.group(2)).append(");\n");
            } else {
                if (!line.isBlank() && !line.equals("TypeChain x = new TypeChain();")) complain("no answer is told in: " + line);
                code.append("        ").append(line).append('\n');
            }
        }
        return code.append("    }\n").toString();
    }

    private static Class<?> compiled(String code) throws Exception {
        Path out = Files.createTempDirectory("readme");
        String classes = Path.of(TypeChain.class.getProtectionDomain().getCodeSource().getLocation().toURI()).toString();
        JavaFileObject source = new SimpleJavaFileObject(URI.create("string:///Examples.java"), JavaFileObject.Kind.SOURCE) {
            @Override
            public CharSequence getCharContent(boolean ignoreErrors) {
                return code;
            }
        };
        JavaCompiler compiler = ToolProvider.getSystemJavaCompiler();
        StringWriter said = new StringWriter();
        List<String> options = List.of("-cp", classes, "-d", out.toString());
        boolean good = compiler.getTask(said, null, null, options, null, List.of(source)).call();
        if (!good) throw new IllegalStateException("the examples do not compile:\n" + said);
        try (URLClassLoader loader = new URLClassLoader(new URL[] {out.toUri().toURL()}, ReadmeTest.class.getClassLoader())) {
            return loader.loadClass("Examples");
        } finally {
            Files.delete(out.resolve("Examples.class"));
            Files.delete(out);
        }
    }

    private static void runExamples(String readme) throws Exception {
        StringBuilder code = new StringBuilder("public final class Examples {\n");
        List<String> names = new ArrayList<>();
        Matcher block = BLOCK.matcher(readme);
        while (block.find()) {
            if (block.group(1).startsWith("static ")) {
                code.append(block.group(1));
            } else {
                names.add("example" + names.size());
                code.append(method(block.group(1), names.size() - 1));
            }
        }
        Class<?> examples = compiled(code.append("}\n").toString());
        for (String name : names) examples.getMethod(name).invoke(null);
        if (names.size() < 2) complain("its examples were not found");
    }

    private static void nameAllCalls(String readme) {
        TreeSet<String> missing = new TreeSet<>();
        for (Method m : TypeChain.class.getDeclaredMethods()) {
            if (Modifier.isPublic(m.getModifiers()) && !readme.contains("x." + m.getName() + "(")) missing.add(m.getName());
        }
        if (!missing.isEmpty()) complain("it shows no use of " + missing);
    }

    private static void nameConstants(String readme) {
        int[] numbers = {TypeChain.BAD, TypeChain.STATE, TypeChain.FULL, TypeChain.NONE};
        String[] names = {"BAD", "STATE", "FULL", "NONE"};
        for (int i = 0; i < names.length; i++) {
            if (!readme.contains("`TypeChain." + names[i] + "` | " + numbers[i] + " |")) complain("it tells no number of " + names[i]);
        }
    }

    /** Each file and command that stands in it is there, from the project's folder. */
    private static void nameFiles(String readme) {
        if (!readme.contains("\n    .ci/run\n")) complain("it does not say how to run the tests");
        if (!Files.isExecutable(Path.of(".ci/run"))) complain(".ci/run can not be run");
        Matcher path = Pattern.compile("(?:\\.\\./shared|src)(?:/[\\w.]+)+").matcher(readme);
        while (path.find()) if (!Files.exists(Path.of(path.group()))) complain("there is no " + path.group());
    }

    public static void main(String[] args) throws Exception {
        String readme = Files.readString(Path.of("README.md"));
        runExamples(readme);
        nameAllCalls(readme);
        nameConstants(readme);
        nameFiles(readme);
        System.out.println("README.md: " + answers + " answers looked at, " + wrong + " wrong");
        if (wrong != 0) System.exit(1);
    }
}
