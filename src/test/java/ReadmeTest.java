import java.io.IOException;
import java.lang.reflect.Method;
import java.lang.reflect.Modifier;
import java.net.URL;
import java.net.URLClassLoader;
import java.nio.file.Files;
import java.nio.file.Path;
import java.util.Arrays;
import java.util.Comparator;
import java.util.List;
import java.util.Set;
import java.util.TreeSet;
import java.util.regex.Matcher;
import java.util.regex.Pattern;
import java.util.stream.Collectors;
import java.util.stream.Stream;
import javax.tools.JavaCompiler;
import javax.tools.ToolProvider;

/** That what README.md says is so: its program answers as it tells, and it names what there is. */
public final class ReadmeTest {
    private static final Due due = new Due("ReadmeTest");
    private static final Path TESTS = Path.of("src/test/java");

    public static void main(String[] args) throws Exception {
        String readme = Files.readString(Path.of("README.md"));
        program(readme);
        calls(readme);
        refusals(readme);
        classesInside(readme);
        testsOfTheProject(readme);
        filesNamed(readme);
        due.end();
    }

    /** The program of the README is compiled and run; a call with a number behind it must answer that. */
    private static void program(String readme) throws Exception {
        Matcher block = Pattern.compile("(?s)```java\\n(.*?)```").matcher(readme);
        due.is("README has a program", block.find() ? 1 : 0, 1);
        String code = block.group(1);
        Matcher told = Pattern.compile("mill\\.\\w+\\([^;\\n]*\\);\\s*// -?\\d+\\b").matcher(code);
        due.is("answers that the program tells", told.results().count() > 10 ? 1 : 0, 1);
        String asking = code.replaceAll("(mill\\.\\w+\\([^;\\n]*\\));\\s*// (-?\\d+)\\b", "seen(\"$1\", $1, $2); //");
        Path dir = Files.createTempDirectory("readme");
        try {
            run(dir, asking);
        } finally {
            delete(dir);
        }
    }

    private static void run(Path dir, String code) throws Exception {
        Path file = dir.resolve("Program.java");
        Files.writeString(file, "public final class Program {\n"
            + "  public static final java.util.List<Object[]> SEEN = new java.util.ArrayList<>();\n"
            + "  private static int seen(String call, long got, long want) { SEEN.add(new Object[] {call, got, want}); return (int) got; }\n"
            + "  public static void run() {\n" + code + "\n}\n}\n");
        JavaCompiler javac = ToolProvider.getSystemJavaCompiler();
        due.is("the program compiles", javac.run(null, null, null, "-cp", System.getProperty("java.class.path"), "-d", dir.toString(), file.toString()), 0);
        try (URLClassLoader loader = new URLClassLoader(new URL[] {dir.toUri().toURL()})) {
            Class<?> made = loader.loadClass("Program");
            made.getMethod("run").invoke(null);
            for (Object row : (List<?>) made.getField("SEEN").get(null)) {
                Object[] seen = (Object[]) row;
                due.is("README: " + seen[0], (Long) seen[1], (Long) seen[2]);
            }
        }
    }

    private static void delete(Path dir) throws IOException {
        try (Stream<Path> files = Files.walk(dir)) {
            for (Path file : files.sorted(Comparator.reverseOrder()).toList()) {
                Files.delete(file);
            }
        }
    }

    private static void calls(String readme) throws IOException {
        Set<String> face = Arrays.stream(FormMill.class.getDeclaredMethods()).filter(m -> Modifier.isPublic(m.getModifiers()))
            .map(Method::getName).collect(Collectors.toCollection(TreeSet::new));
        Set<String> named = new TreeSet<>();
        String document = Files.readString(Path.of("../shared/DOC.md"));
        for (String[] row : table(readme, "| Calls | Promises | For |")) {
            Matcher promises = Pattern.compile("(\\d+) to (\\d+)").matcher(row[1]);
            due.is("promises of " + row[0], promises.matches() ? 1 : 0, 1);
            int promise = Integer.parseInt(promises.group(1));
            for (String call : quoted(row[0])) {
                named.add(call);
                due.is("Promise " + promise + " is " + call, document.contains("## Promise " + promise + ": " + call + "\n") ? 1 : 0, 1);
                promise++;
            }
            due.is("last promise of " + row[0], promise - 1, Integer.parseInt(promises.group(2)));
        }
        due.is("calls of the README " + named, named.equals(face) ? 1 : 0, 1);
    }

    private static void refusals(String readme) throws ReflectiveOperationException {
        for (String[] row : table(readme, "| Answer | When |")) {
            Matcher constant = Pattern.compile("`(\\w+)` \\((-\\d+)\\)").matcher(row[0]);
            if (constant.matches()) {
                due.is(constant.group(1), FormMill.class.getField(constant.group(1)).getInt(null), Integer.parseInt(constant.group(2)));
            }
        }
        FormMill mill = new FormMill();
        due.is("BAD of about()", mill.about(0, 0), -100);
        due.is("BAD of part()", mill.part(0, 0, 0), -100);
        due.is("BAD of item()", mill.item(0, 0, 0), -100);
        due.is("BAD of finding()", mill.finding(0, 0), -100);
        due.is("BAD of stats()", mill.stats(0, 0, 0), -100);
        due.is("BAD of cellOf()", mill.cellOf(0, 0, 0, 0), 0);
        due.is("BAD of digest()", mill.digest(0), 0);
    }

    private static void classesInside(String readme) {
        String built = readme.substring(readme.indexOf("## How it is built"), readme.indexOf("## How to run its tests"));
        Set<String> named = quoted(built).stream().map(w -> w.replaceAll("s$", "")).collect(Collectors.toCollection(TreeSet::new));
        Set<String> inside = new TreeSet<>(Set.of("FormMill"));
        for (Class<?> c : FormMill.class.getDeclaredClasses()) {
            inside.add(c.getSimpleName());
        }
        due.is("classes of the README " + named, named.equals(inside) ? 1 : 0, 1);
    }

    private static void testsOfTheProject(String readme) throws IOException {
        Set<String> named = new TreeSet<>();
        for (String[] row : table(readme, "| Test | Promises |")) {
            named.addAll(quoted(row[0]));
        }
        try (Stream<Path> files = Files.list(TESTS)) {
            Set<String> there = files.map(f -> f.getFileName().toString()).filter(f -> f.endsWith("Test.java"))
                .map(f -> f.replace(".java", "")).collect(Collectors.toCollection(TreeSet::new));
            due.is("tests of the README " + named, named.equals(there) ? 1 : 0, 1);
        }
    }

    private static void filesNamed(String readme) {
        for (String path : quoted(readme)) {
            if (path.contains("/")) {
                due.is(path + " is there", Files.exists(Path.of(path)) ? 1 : 0, 1);
            }
        }
        for (String helper : List.of("Model", "Due", "Office", "Failing", "Twins")) {
            due.is("README names " + helper, quoted(readme).contains(helper) ? 1 : 0, 1);
            due.is(helper + " is there", Files.exists(TESTS.resolve(helper + ".java")) ? 1 : 0, 1);
        }
        due.is(".ci/run can be run", Files.isExecutable(Path.of(".ci/run")) ? 1 : 0, 1);
    }

    /** The rows of the table with a certain head, as cells. */
    private static List<String[]> table(String readme, String head) {
        List<String> lines = readme.lines().toList();
        int at = lines.indexOf(head);
        due.is("README has the table " + head, at >= 0 ? 1 : 0, 1);
        return lines.stream().skip(at + 2).takeWhile(line -> line.startsWith("|"))
            .map(line -> line.substring(2, line.length() - 2).split(" \\| ")).toList();
    }

    private static Set<String> quoted(String text) {
        return Pattern.compile("`([^`\\n]+)`").matcher(text.replaceAll("(?s)```.*?```", "")).results().map(r -> r.group(1))
            .collect(Collectors.toCollection(java.util.LinkedHashSet::new));
    }
}
