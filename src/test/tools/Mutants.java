import java.io.File;
import java.io.IOException;
import java.io.OutputStream;
import java.nio.file.Files;
import java.nio.file.Path;
import java.util.ArrayList;
import java.util.List;
import java.util.concurrent.ExecutorService;
import java.util.concurrent.Executors;
import java.util.concurrent.TimeUnit;
import java.util.concurrent.atomic.AtomicInteger;
import java.util.regex.Matcher;
import java.util.regex.Pattern;
import java.util.stream.Collectors;
import java.util.stream.Stream;
import javax.tools.ToolProvider;

/**
 * Breaks the class in one place at a time and lists each break that no test of boundary cases finds.
 * Run by hand from the project's folder, as it takes minutes: java src/test/tools/Mutants.java [a test's name ..]
 */
public final class Mutants {
    private static final Path MAIN = Path.of("src/main/java/TypeChain.java");
    private static final Path TESTS = Path.of("src/test/java"), SUPPORT = Path.of("src/test/support");
    private static final int SECONDS = 30;

    record Mutant(int line, String what, String code) { }

    /** What is written in place of a sign; a sign may be broken in several ways. */
    private static final String[][] SWAPS = {
        {" < ", " <= ", " >= "}, {" <= ", " < ", " > "}, {" > ", " >= ", " <= "}, {" >= ", " > ", " < "},
        {" == ", " != "}, {" != ", " == "}, {" && ", " || "}, {" || ", " && "}, {" + ", " - "}, {" - ", " + "},
        {" * ", " + "}, {" % ", " / "}, {" / ", " % "}, {"++;", "--;"}, {" += ", " -= "}, {" |= ", " = "},
        {"return true;", "return false;"}, {"return false;", "return true;"}, {"return BAD;", "return STATE;"},
        {"return STATE;", "return BAD;"}, {"return NONE;", "return BAD;"}, {"= true;", "= false;"}, {"= false;", "= true;"}};

    private static List<Mutant> mutants(String code) {
        List<Mutant> all = new ArrayList<>();
        for (String[] swap : SWAPS) {
            for (int at = code.indexOf(swap[0]); at >= 0; at = code.indexOf(swap[0], at + 1)) {
                for (int i = 1; i < swap.length; i++) all.add(mutant(code, at, at + swap[0].length(), swap[i]));
            }
        }
        Matcher number = Pattern.compile("(?<![\\w.\"'])\\d+\\b").matcher(code);
        while (number.find()) {
            long v = Long.parseLong(number.group());
            all.add(mutant(code, number.start(), number.end(), "" + (v + 1)));
            if (v > 0) all.add(mutant(code, number.start(), number.end(), "" + (v - 1)));
        }
        // a statement that is a call or a change, left out
        Matcher statement = Pattern.compile("(?m)^ {8,}(?!return|break|continue|final|int |boolean |private )[\\w.\\[\\] ]+(\\(.*\\)| [|+-]?= .*|\\+\\+);$")
            .matcher(code);
        while (statement.find()) all.add(mutant(code, statement.start(), statement.end(), ";"));
        Matcher condition = Pattern.compile("(?m)\\bif \\((.*)\\) \\{$").matcher(code);
        while (condition.find()) {
            all.add(mutant(code, condition.start(1), condition.end(1), "(boolean) true"));
            all.add(mutant(code, condition.start(1), condition.end(1), "(boolean) false"));
        }
        Matcher choice = Pattern.compile(" \\? ([^?:;]+) : ([^?:;]+);").matcher(code);
        while (choice.find()) all.add(mutant(code, choice.start(), choice.end(), " ? " + choice.group(2) + " : " + choice.group(1) + ";"));
        addParts(code, " || ", "false", all);
        addParts(code, " && ", "true", all);
        all.removeIf(m -> m.what().matches(".* in: (/\\*|//).*"));
        return all;
    }

    /** Each part of a condition left out, on either side of its sign. */
    private static void addParts(String code, String sign, String neutral, List<Mutant> all) {
        for (int at = code.indexOf(sign); at >= 0; at = code.indexOf(sign, at + 1)) {
            int from = at, to = at + sign.length();
            for (int depth = 0; depth > 0 || !beginsPart(code, from, sign); from--) {
                if (code.charAt(from - 1) == ')') depth++;
                if (code.charAt(from - 1) == '(') depth--;
            }
            for (int depth = 0; depth > 0 || !endsPart(code, to, sign); to++) {
                if (code.charAt(to) == '(') depth++;
                if (code.charAt(to) == ')') depth--;
            }
            all.add(mutant(code, from, at, neutral));
            all.add(mutant(code, at + sign.length(), to, neutral));
        }
    }

    private static boolean beginsPart(String code, int at, String sign) {
        String before = code.substring(0, at);
        return before.endsWith("(") || before.endsWith("return ") || before.endsWith(" = ") || before.endsWith("; ")
            || before.endsWith(" || ") || before.endsWith(sign);
    }

    private static boolean endsPart(String code, int at, String sign) {
        return code.startsWith(")", at) || code.startsWith(";", at) || code.startsWith(" ? ", at) || code.startsWith(" || ", at)
            || code.startsWith(sign, at);
    }

    private static Mutant mutant(String code, int from, int to, String other) {
        int line = (int) code.substring(0, from).lines().count();
        int begin = code.lastIndexOf('\n', from) + 1, end = code.indexOf('\n', to);
        String text = code.substring(begin, end < 0 ? code.length() : end).trim();
        return new Mutant(line, "'" + code.substring(from, to).trim() + "' -> '" + other.trim() + "' in: " + text,
            code.substring(0, from) + other + code.substring(to));
    }

    private static boolean compile(Path out, String... sources) {
        List<String> args = new ArrayList<>(List.of("-nowarn", "-cp", out.toString(), "-d", out.toString()));
        args.addAll(List.of(sources));
        OutputStream none = OutputStream.nullOutputStream();
        return ToolProvider.getSystemJavaCompiler().run(null, none, none, args.toArray(new String[0])) == 0;
    }

    private static List<String> sources(Path dir, List<String> names) throws IOException {
        try (Stream<Path> files = Files.list(dir)) {
            return files.map(Path::toString).filter(f -> names.isEmpty() || names.stream().anyMatch(f::contains))
                .sorted().collect(Collectors.toList());
        }
    }

    private static boolean passes(String path, String test) throws IOException, InterruptedException {
        Process p = new ProcessBuilder("java", "-XX:TieredStopAtLevel=1", "-Xshare:auto", "-cp", path, test)
            .redirectOutput(ProcessBuilder.Redirect.DISCARD).redirectError(ProcessBuilder.Redirect.DISCARD).start();
        boolean ended = p.waitFor(SECONDS, TimeUnit.SECONDS);
        if (!ended) p.destroyForcibly().waitFor();
        return ended && p.exitValue() == 0;
    }

    private static void hold(Mutant m, Path tests, List<String> names, AtomicInteger kept, AtomicInteger made) {
        try {
            Path dir = Files.createTempDirectory("mutant");
            Path file = dir.resolve("TypeChain.java");
            Files.writeString(file, m.code());
            boolean alive = compile(dir, file.toString());
            if (alive) made.incrementAndGet();
            for (int i = 0; alive && i < names.size(); i++) alive = passes(dir + File.pathSeparator + tests, names.get(i));
            if (alive) {
                kept.incrementAndGet();
                System.out.println("line " + m.line() + ": " + m.what());
            }
            try (Stream<Path> files = Files.list(dir)) {
                for (Path f : files.collect(Collectors.toList())) Files.delete(f);
            }
            Files.delete(dir);
        } catch (IOException | InterruptedException e) {
            System.out.println("line " + m.line() + ": " + e);
        }
    }

    public static void main(String[] args) throws Exception {
        List<String> wanted = args.length > 0 ? List.of(args) : List.of("EdgesOf");
        Path out = Files.createTempDirectory("tests");
        List<String> tests = sources(TESTS, wanted), all = new ArrayList<>(tests);
        all.addAll(sources(SUPPORT, List.of()));
        all.add(MAIN.toString());
        if (!compile(out, all.toArray(new String[0]))) throw new IllegalStateException("the tests do not compile");
        List<String> names = tests.stream().map(f -> Path.of(f).getFileName().toString().replace(".java", "")).collect(Collectors.toList());
        for (String name : names) if (!passes(out.toString(), name)) throw new IllegalStateException(name + " fails already");
        List<Mutant> mutants = mutants(Files.readString(MAIN));
        AtomicInteger kept = new AtomicInteger(), made = new AtomicInteger();
        ExecutorService pool = Executors.newFixedThreadPool(Runtime.getRuntime().availableProcessors());
        for (Mutant m : mutants) pool.execute(() -> hold(m, out, names, kept, made));
        pool.shutdown();
        pool.awaitTermination(2, TimeUnit.HOURS);
        System.out.println(made + " breaks, " + kept + " not found");
    }
}
