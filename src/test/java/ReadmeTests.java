import java.lang.reflect.InvocationTargetException;
import java.lang.reflect.Method;
import java.lang.reflect.Modifier;
import java.net.URL;
import java.net.URLClassLoader;
import java.nio.file.Files;
import java.nio.file.Path;
import java.util.ArrayList;
import java.util.IdentityHashMap;
import java.util.List;
import java.util.Map;
import java.util.NoSuchElementException;
import java.util.Set;
import java.util.TreeSet;
import java.util.regex.Matcher;
import java.util.regex.Pattern;
import java.util.stream.Stream;
import javax.tools.JavaCompiler;
import javax.tools.ToolProvider;

/**
 * README.md's runs of calls: its Java blocks are compiled as they stand there, each line with an answer behind it as
 * one call, and each answer that is named must be the one that the class gives.
 */
public final class ReadmeTests {
    private static final String BEGIN = "LeafStripes x = new LeafStripes();";
    private static final int MOST_CALLS = 512;
    private static final Pattern ANSWERED = Pattern.compile("\\s*(\\S.*?);\\s*// (.+)");
    private static final Pattern ANSWER = Pattern.compile("(\"[^\"]*\"|'.'|[^:\"]+?)(?:: .+)?");
    private static final Pattern CALLED = Pattern.compile("\\bx\\.(\\w+)\\(");

    private static final Map<LeafStripes, Integer> CALLS = new IdentityHashMap<>();
    private static final Set<String> SHOWN = new TreeSet<>();
    private static int answers;
    private static int wrong;

    private ReadmeTests() {
    }

    /** A call of the page, as the compiled runs make it. */
    public interface Call {
        Object run();
    }

    private static final class Block {
        final int line;
        final List<String> lines = new ArrayList<>();

        Block(int line) {
            this.line = line;
        }

        boolean isRun() {
            return lines.contains(BEGIN);
        }
    }

    private static void fail(int line, String what) {
        wrong++;
        System.out.println("README.md, line " + line + ": " + what);
    }

    // ---- what the compiled runs call ----

    public static LeafStripes used(LeafStripes x) {
        CALLS.merge(x, 1, Integer::sum);
        return x;
    }

    public static void due(int line, String text, Call call, Object want) {
        answers++;
        Object got;
        try {
            got = plain(call.run());
        } catch (RuntimeException e) {
            got = e.getClass();
        }
        if (!plain(want).equals(got)) {
            fail(line, text + " answered " + got + ", named is " + want);
        }
    }

    private static Object plain(Object answer) {
        return answer instanceof Character ? (Object) (int) (Character) answer : answer;
    }

    // ---- the page ----

    private static List<Block> javaBlocks(List<String> page) {
        List<Block> blocks = new ArrayList<>();
        Block open = null;
        for (int i = 0; i < page.size(); i++) {
            String line = page.get(i);
            if (open == null && line.equals("```java")) {
                open = new Block(i + 2);
                blocks.add(open);
            } else if (line.startsWith("```")) {
                open = null;
            } else if (open != null) {
                open.lines.add(line);
            }
        }
        return blocks;
    }

    private static String sourceOf(List<Block> blocks) {
        StringBuilder functions = new StringBuilder();
        StringBuilder runs = new StringBuilder();
        for (Block block : blocks) {
            if (block.isRun()) {
                runs.append("{\n").append(runSource(block)).append("}\n");
            } else {
                functions.append(counted(String.join("\n", block.lines))).append('\n');
            }
        }
        return "public final class ReadmeRuns {\nstatic final int NONE = LeafStripes.NONE;\n" + functions
                + "public static void run() {\n" + runs + "}\n}\n";
    }

    private static String counted(String code) {
        return CALLED.matcher(code).replaceAll("ReadmeTests.used(x).$1(");
    }

    /** Each line begins a run, is an image(), or is a call that names its answer: none goes unlooked at. */
    private static String runSource(Block block) {
        StringBuilder source = new StringBuilder();
        for (int i = 0; i < block.lines.size(); i++) {
            String line = block.lines.get(i);
            Matcher called = CALLED.matcher(line);
            while (called.find()) {
                SHOWN.add(called.group(1));
            }
            if (line.equals(BEGIN) ? i == 0 : line.equals("x.image();")) {
                source.append(counted(line)).append('\n');
            } else {
                source.append(answeredSource(line, block.line + i));
            }
        }
        return source.toString();
    }

    private static String answeredSource(String line, int number) {
        Matcher answered = ANSWERED.matcher(line);
        Matcher answer = ANSWER.matcher(answered.matches() ? answered.group(2) : "");
        if (!answer.matches()) {
            fail(number, "names no answer: " + line);
            return "";
        }
        String call = answered.group(1);
        String want = answer.group(1);
        if (want.startsWith("throws ")) {
            String name = want.substring(7);
            want = (name.equals(NoSuchElementException.class.getSimpleName()) ? "java.util." : "") + name + ".class";
        }
        return "ReadmeTests.due(" + number + ", \"" + call.replace("\\", "\\\\").replace("\"", "\\\"") + "\", () -> "
                + counted(call) + ", " + want + ");\n";
    }

    // ---- compiled, run ----

    private static void compileAndRun(String source) throws Exception {
        JavaCompiler compiler = ToolProvider.getSystemJavaCompiler();
        if (compiler == null) {
            throw new IllegalStateException("this Java has no compiler");
        }
        Path folder = Files.createTempDirectory("readme");
        try {
            Path file = folder.resolve("ReadmeRuns.java");
            Files.writeString(file, source);
            int exit = compiler.run(null, System.out, System.out, "-cp", System.getProperty("java.class.path"),
                    "-d", folder.toString(), file.toString());
            if (exit != 0) {
                fail(0, "its Java doesn't compile");
                return;
            }
            runIn(folder);
        } finally {
            removeAll(folder);
        }
    }

    private static void runIn(Path folder) throws Exception {
        try (URLClassLoader loader = new URLClassLoader(new URL[] {folder.toUri().toURL()},
                ReadmeTests.class.getClassLoader())) {
            loader.loadClass("ReadmeRuns").getMethod("run").invoke(null);
        } catch (InvocationTargetException e) {
            fail(0, "a run threw " + e.getCause());
        }
    }

    private static void removeAll(Path folder) throws Exception {
        List<Path> files = new ArrayList<>();
        try (Stream<Path> all = Files.list(folder)) {
            all.forEach(files::add);
        }
        for (Path file : files) {
            Files.delete(file);
        }
        Files.delete(folder);
    }

    // ---- what the page must show ----

    private static void allOfTheFace() {
        for (Method m : LeafStripes.class.getDeclaredMethods()) {
            if (Modifier.isPublic(m.getModifiers()) && !SHOWN.contains(m.getName())) {
                fail(0, "no run shows " + m.getName() + "()");
            }
        }
    }

    private static void noRunTooLong() {
        for (int calls : CALLS.values()) {
            if (calls > MOST_CALLS) {
                fail(0, "a run makes " + calls + " calls, and the document promises " + MOST_CALLS);
            }
        }
    }

    private static void allTestsNamed(String page) throws Exception {
        Set<String> there = new TreeSet<>();
        try (Stream<Path> all = Files.list(Path.of("src/test/java"))) {
            all.map(p -> p.getFileName().toString()).filter(n -> n.endsWith("Tests.java"))
                    .forEach(n -> there.add(n.substring(0, n.length() - 5)));
        }
        Set<String> named = new TreeSet<>();
        Matcher m = Pattern.compile("`(\\w+Tests)`").matcher(page);
        while (m.find()) {
            named.add(m.group(1));
        }
        if (!named.equals(there)) {
            fail(0, "names the tests " + named + ", there are " + there);
        }
    }

    public static void main(String[] args) throws Exception {
        Path readme = Path.of(args.length > 0 ? args[0] : "README.md");
        List<Block> blocks = javaBlocks(Files.readAllLines(readme));
        compileAndRun(sourceOf(blocks));
        allOfTheFace();
        noRunTooLong();
        allTestsNamed(Files.readString(readme));
        System.out.println("ReadmeTests: " + CALLS.size() + " runs, " + answers + " answers looked at, " + wrong + " wrong");
        if (wrong != 0 || answers == 0) {
            System.exit(1);
        }
    }
}
