import java.io.PrintWriter;
import java.io.StringWriter;
import java.lang.management.ManagementFactory;
import java.lang.reflect.Constructor;
import java.lang.reflect.Field;
import java.lang.reflect.Member;
import java.lang.reflect.Method;
import java.lang.reflect.Modifier;
import java.nio.file.DirectoryStream;
import java.nio.file.Files;
import java.nio.file.Path;
import java.util.ArrayList;
import java.util.List;
import java.util.Map;
import java.util.Random;
import java.util.TreeMap;
import java.util.TreeSet;
import java.util.regex.Matcher;
import java.util.regex.Pattern;
import java.util.spi.ToolProvider;

/** No call throws, none makes an object, and the class keeps to what LANGUAGE.md lets it use. */
public final class SafetyTest {
    private static final Path SOURCE = Path.of("src/main/java/TypeChain.java");
    private static final int[] ODD = {Integer.MIN_VALUE, Integer.MIN_VALUE + 1, -1000000, -41, -21, -10, -4, -1, 0, 1, 2,
        3, 5, 7, 9, 10, 11, 15, 19, 26, 29, 39, 40, 48, 60, 240, 999999, 1000000, Integer.MAX_VALUE - 40, Integer.MAX_VALUE};
    private static final String[] TEXTS = {"", "go;", "chain,ab;pitch 6;gap 6;columns 40;power 1;put," + "ab".repeat(20) + " 0;go;skip 0;",
        "columns 1;rows 1;put,a 0;go;space 9;", "chain," + "abcdefgh".repeat(6) + ";rows 60;hole 59 7;put,h 19;go;skip 7;",
        "put,z 0;go;", "pitch 99;", "chain,fedcba;columns 40;power 1;" + "put,abcdefabcdefabcdef 2;go;".repeat(4)};
    private static int wrong = 0;

    private static void hold(boolean good, String what) {
        if (!good) {
            wrong++;
            System.out.println(what);
        }
    }

    private static List<Method> face() {
        List<Method> all = new ArrayList<>();
        for (Method m : TypeChain.class.getDeclaredMethods()) if (Modifier.isPublic(m.getModifiers())) all.add(m);
        all.sort((a, b) -> a.getName().compareTo(b.getName()));
        return all;
    }

    private static void throwNothing() throws ReflectiveOperationException {
        Random chance = new Random(7);
        List<Method> calls = face();
        for (int round = 0; round < 400; round++) {
            TypeChain x = new TypeChain();
            for (int i = 0; i < 600; i++) {
                if (chance.nextInt(60) == 0) Tape.tell(x, TEXTS[chance.nextInt(TEXTS.length)]);
                Method m = calls.get(chance.nextInt(calls.size()));
                Object[] args = new Object[m.getParameterCount()];
                for (int a = 0; a < args.length; a++) {
                    int v = chance.nextInt(3) == 0 ? ODD[chance.nextInt(ODD.length)] : chance.nextInt(30);
                    if (m.getParameterTypes()[a] == long.class) args[a] = (long) v * chance.nextInt();
                    else args[a] = v;
                }
                try {
                    m.invoke(x, args);
                } catch (java.lang.reflect.InvocationTargetException e) {
                    hold(false, m.getName() + java.util.Arrays.toString(args) + " threw " + e.getCause());
                }
            }
        }
        for (long full : new long[] {0x6161616161616161L, 0x3131313131313131L, 0x2020202020202020L, 0x3b3b3b3b3b3b3b3bL, 0}) {
            TypeChain x = new TypeChain();
            for (int i = 0; i < 30; i++) x.feed(full);
            x.text();
        }
        // far more calls than are promised: the tick runs over, and still nothing is thrown
        TypeChain x = new TypeChain();
        Tape.tell(x, "chain,ab;pitch 6;gap 6;start 20;step 20;rows 60;" + "skip 0;".repeat(24));
        for (int i = 0; i < 80000; i++) x.run();
        x.put(3, 1);
        x.put(4, 2);
        x.go();
        x.late(3, 1, 20);
        x.ticks(1);
        for (int k = 0; k < 2; k++) x.slipped(k, 3);
        x.seen(3, 1);
        x.slips(0);
    }

    private static long made() {
        return ((com.sun.management.ThreadMXBean) ManagementFactory.getThreadMXBean())
            .getThreadAllocatedBytes(Thread.currentThread().getId());
    }

    private static int allCalls(TypeChain x) {
        int sum = x.feed(0x676f3b2020202020L) + x.end(0) + x.fault() + x.rule(0) + x.slug(1) + x.holes(0) + x.order(0, 0);
        sum += x.faces(0, 3) + x.comes(0, 1, 9) + x.late(0, 1, 3) + x.put(0, 1) + x.line(0) + x.ticks(1) + x.go();
        sum += x.struck(10) + x.slipped(1, 0) + x.seen(0, 2) + x.slips(0) + x.space(9) + x.skip(0) + x.now(3) + x.page(0, 0, 1);
        sum += x.run() + x.ran(0) + x.best(0) + x.twice(2) + x.sheet(0, 1, 40) + x.lay(0, 3, 5) + x.read(0, 1, 0) + x.count(2);
        x.feed(0x7075742c61303b67L);
        x.feed(0x6f3b736b6970303bL);
        return sum + x.text() + x.run() + x.best(0) + x.twice(0);
    }

    private static void makeNothing() {
        TypeChain x = new TypeChain();
        int sum = 0;
        for (int i = 0; i < 50; i++) sum += allCalls(x);
        long before = made();
        for (int i = 0; i < 200; i++) sum += allCalls(x);
        long bytes = made() - before;
        hold(bytes < 2000, "calls made objects of " + bytes + " bytes (" + sum + ")");
    }

    private static void keepTheFace() {
        TreeSet<String> due = new TreeSet<>(List.of("feed", "end", "text", "fault", "rule", "slug", "holes", "order", "faces",
            "comes", "late", "put", "line", "ticks", "go", "struck", "slipped", "seen", "slips", "space", "skip", "now", "page",
            "run", "ran", "best", "twice", "sheet", "lay", "read", "count", "BAD", "STATE", "FULL", "NONE"));
        TreeSet<String> open = new TreeSet<>();
        List<Member> members = new ArrayList<>();
        members.addAll(List.of(TypeChain.class.getDeclaredMethods()));
        members.addAll(List.of(TypeChain.class.getDeclaredFields()));
        for (Member m : members) if (!Modifier.isPrivate(m.getModifiers()) && !m.isSynthetic()) open.add(m.getName());
        hold(open.equals(due), "the face is " + open);
        for (Constructor<?> c : TypeChain.class.getDeclaredConstructors()) {
            hold(Modifier.isPublic(c.getModifiers()) && c.getParameterCount() == 0, "constructor " + c);
        }
        Class<?>[] inside = TypeChain.class.getDeclaredClasses();
        hold(inside.length <= 12, inside.length + " classes inside");
        for (Class<?> k : inside) {
            hold(Modifier.isStatic(k.getModifiers()) && !Modifier.isPublic(k.getModifiers()), k + " is not as it should be");
            for (Method m : k.getDeclaredMethods()) hold(!due.contains(m.getName()), k + " has a method " + m.getName());
            int fields = 0;
            for (Field f : k.getDeclaredFields()) if (!Modifier.isStatic(f.getModifiers())) fields++;
            hold(fields <= 20, k + " has " + fields + " fields");
            for (Method m : k.getDeclaredMethods()) hold(m.getParameterCount() <= 7, m + " has too many parameters");
        }
    }

    private static void keepTheLanguage() throws java.io.IOException {
        String code = Files.readString(SOURCE).replaceAll("(?s)/\\*.*?\\*/", "").replaceAll("//[^\n]*", "");
        for (char c : code.toCharArray()) hold(c < 128, "a sign that is not plain: " + (int) c);
        Matcher m = Pattern.compile("\\b(throws?|try|catch|synchronized|assert|var|yield|sealed|volatile|double|float"
            + "|Object|System\\.(?!arraycopy)\\w+|\\w+Exact|hashCode|toString|package)\\b|->|::|\"\"\"").matcher(code);
        while (m.find()) hold(false, "the class uses " + m.group());
        m = Pattern.compile("import [^;]*;").matcher(code);
        while (m.find()) hold(m.group().equals("import java.util.Arrays;"), m.group());
        m = Pattern.compile("\\b(Math|Integer|Long|Arrays)\\.(\\w+)").matcher(code);
        while (m.find()) hold(List.of("max", "min", "bitCount", "fill", "MAX_VALUE").contains(m.group(2)), m.group());
        // a method begins and ends at one indent
        m = Pattern.compile("(?m)^( {4}| {8})(?=\\S)(?!else|private static final class)[^\n]*\\) \\{\n(.*\n)*?\\1\\}\n").matcher(code);
        int methods = 0;
        while (m.find()) {
            methods++;
            long lines = m.group().lines().count();
            hold(lines <= 60, lines + " lines: " + m.group().lines().findFirst().orElse(""));
        }
        hold(methods > 60, "only " + methods + " methods were found");
    }

    /** Which methods each method calls, as javap shows it. */
    private static Map<String, TreeSet<String>> callsOf() throws java.io.IOException, java.net.URISyntaxException {
        Map<String, TreeSet<String>> calls = new TreeMap<>();
        Path dir = Path.of(TypeChain.class.getProtectionDomain().getCodeSource().getLocation().toURI());
        try (DirectoryStream<Path> files = Files.newDirectoryStream(dir, "TypeChain*.class")) {
            for (Path file : files) {
                String owner = file.getFileName().toString().replace(".class", "");
                if (owner.startsWith("TypeChainRuns")) continue;
                StringWriter out = new StringWriter();
                PrintWriter print = new PrintWriter(out);
                ToolProvider.findFirst("javap").orElseThrow().run(print, print, "-c", "-p", file.toString());
                String method = "";
                for (String line : out.toString().split("\\R")) {
                    Matcher head = Pattern.compile("^  \\S.*?([\\w$]+)\\(.*\\);$").matcher(line);
                    Matcher call = Pattern.compile("// Method (?:([\\w$/]+)\\.)?(\\w+|\"<init>\"):").matcher(line);
                    if (head.find()) {
                        method = owner + "." + (head.group(1).equals(owner) ? "\"<init>\"" : head.group(1));
                        calls.put(method, new TreeSet<>());
                    } else if (call.find()) {
                        calls.get(method).add((call.group(1) == null ? owner : call.group(1)) + "." + call.group(2));
                    }
                }
            }
        }
        return calls;
    }

    private static int depth(Map<String, TreeSet<String>> calls, String method, int open) {
        int most = 0;
        if (open > 20) return most;
        for (String called : calls.getOrDefault(method, new TreeSet<>())) most = Math.max(most, depth(calls, called, open + 1));
        return most + 1;
    }

    private static void stayFlat() throws java.io.IOException, java.net.URISyntaxException {
        Map<String, TreeSet<String>> calls = callsOf();
        for (Method m : face()) {
            int depth = depth(calls, "TypeChain." + m.getName(), 0);
            hold(depth >= 1 && depth <= 8, m.getName() + " calls " + depth + " deep");
        }
        hold(depth(calls, "TypeChain.best", 0) > 4, "the calls were not found");
        hold(depth(calls, "TypeChain.\"<init>\"", 0) <= 8, "the constructor calls too deep");
    }

    public static void main(String[] args) throws Exception {
        throwNothing();
        makeNothing();
        keepTheFace();
        keepTheLanguage();
        stayFlat();
        System.out.println("safety and language: " + wrong + " wrong");
        if (wrong != 0) System.exit(1);
    }
}
