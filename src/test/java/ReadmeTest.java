import java.io.File;
import java.io.IOException;
import java.io.PrintWriter;
import java.lang.reflect.Method;
import java.net.URL;
import java.net.URLClassLoader;
import java.nio.file.Files;
import java.nio.file.Path;
import java.util.ArrayList;
import java.util.Comparator;
import java.util.List;
import java.util.Set;
import java.util.TreeSet;
import java.util.regex.Matcher;
import java.util.regex.Pattern;
import java.util.stream.Collectors;
import java.util.stream.Stream;
import javax.tools.ToolProvider;

/** What README.md says is so: its examples compile and answer as written, its tables name all tests and all calls. */
public final class ReadmeTest {
    private static final Path README = Path.of("README.md");
    private static final Path TESTS = Path.of("src/test/java");
    private static final Pattern EXAMPLE = Pattern.compile("```java\n(.*?)```", Pattern.DOTALL);
    private static final Pattern ANSWERED = Pattern.compile("^(yard\\..*\\)); *// (-?\\d+): .*$");

    public static void main(String[] args) throws Exception {
        String readme = Files.readString(README);
        Matcher example = EXAMPLE.matcher(readme);
        int answers = 0;
        while (example.find()) answers += answersAsWritten(example.group(1));
        Check.due("answers that README tells: more than ten", answers > 10 ? 1 : 0, 1);
        namesAllTests(readme);
        namesAllCalls(readme);
        boundsOfTheTable(readme);
        Check.end();
    }

    // ---- the examples

    private static int answersAsWritten(String example) throws Exception {
        StringBuilder body = new StringBuilder();
        List<String> calls = new ArrayList<>();
        List<Integer> due = new ArrayList<>();
        for (String line : example.split("\n")) {
            Matcher answered = ANSWERED.matcher(line);
            if (answered.find()) {
                calls.add(answered.group(1));
                due.add(Integer.valueOf(answered.group(2)));
                body.append("answers.add(").append(answered.group(1)).append(");\n");
            } else {
                Check.due("a comment that tells no answer: " + line, line.contains("//") ? 1 : 0, 0);
                body.append(line).append('\n');
            }
        }
        List<?> got = run(body.toString());
        Check.due("answers", got.size(), due.size());
        for (int i = 0; i < got.size() && i < due.size(); i++) Check.due("README: " + calls.get(i), (Integer) got.get(i), due.get(i));
        return due.size();
    }

    private static List<?> run(String body) throws Exception {
        Path where = Files.createTempDirectory("readme");
        try {
            Path source = where.resolve("Example.java");
            try (PrintWriter out = new PrintWriter(source.toFile(), "UTF-8")) {
                out.println("public final class Example { public static java.util.List<Integer> run() {");
                out.println("java.util.List<Integer> answers = new java.util.ArrayList<>();");
                out.println(body + "return answers; } }");
            }
            int failed = ToolProvider.getSystemJavaCompiler().run(null, null, null, "-cp", System.getProperty("java.class.path"), source.toString());
            Check.due("README's example compiles", failed, 0);
            if (failed != 0) return new ArrayList<>();
            try (URLClassLoader loader = new URLClassLoader(new URL[] {where.toUri().toURL()})) {
                return (List<?>) loader.loadClass("Example").getMethod("run").invoke(null);
            }
        } finally {
            remove(where);
        }
    }

    private static void remove(Path where) throws IOException {
        try (Stream<Path> all = Files.walk(where)) {
            all.sorted(Comparator.reverseOrder()).map(Path::toFile).forEach(File::delete);
        }
    }

    // ---- the tables

    private static void namesAllTests(String readme) throws IOException {
        Set<String> named = new TreeSet<>();
        Matcher row = Pattern.compile("^\\| `(\\w+Test)` \\|", Pattern.MULTILINE).matcher(readme);
        while (row.find()) named.add(row.group(1));
        Set<String> there;
        try (Stream<Path> all = Files.list(TESTS)) {
            there = all.map(path -> path.getFileName().toString()).filter(name -> name.endsWith("Test.java"))
                    .map(name -> name.replace(".java", "")).collect(Collectors.toCollection(TreeSet::new));
        }
        Check.same("the tests that README names", named.toString(), there.toString());
    }

    private static void namesAllCalls(String readme) {
        String table = readme.substring(readme.indexOf("### The calls"), readme.indexOf("A call that is refused"));
        Set<String> named = new TreeSet<>();
        Matcher call = Pattern.compile("`(\\w+)`").matcher(table);
        while (call.find()) named.add(call.group(1));
        Set<String> there = new TreeSet<>();
        for (Method method : PalaceYard.class.getMethods()) {
            if (method.getDeclaringClass() == PalaceYard.class) there.add(method.getName());
        }
        Check.same("the calls that README names", named.toString(), there.toString());
    }

    /** The bounds in README's table of clauses are those of the class. */
    private static void boundsOfTheTable(String readme) {
        Matcher row = Pattern.compile("^\\| `(\\w) .*?;` \\|[^|]*\\| ([^|]*) \\|", Pattern.MULTILINE).matcher(readme);
        int rows = 0;
        while (row.find()) {
            rows++;
            String[] bounds = row.group(2).split(", ");
            for (int i = 0; i < bounds.length; i++) {
                if (!bounds[i].contains(" to ")) continue;
                int least = Integer.parseInt(bounds[i].split(" to ")[0]);
                int greatest = Integer.parseInt(bounds[i].split(" to ")[1]);
                for (int n = 0; n <= 999; n++) {
                    Check.due("README: " + row.group() + ": " + n, stands(row.group(1), i, bounds.length, n), n >= least && n <= greatest ? 1 : 0);
                }
            }
        }
        Check.due("clauses in README's table", rows, 4);
    }

    /** Whether a text stands in which this clause has n as its NUMBER i, and 1 as all others (but 0 for a CREDITOR). */
    private static int stands(String word, int i, int many, int n) {
        StringBuilder text = new StringBuilder(word.equals("y") ? "" : "y1 1 1;c1 1;").append(word);
        for (int k = 0; k < many; k++) text.append(' ').append(k == i ? n : word.equals("d") && k == 0 ? 0 : 1);
        Counted yard = new Counted();
        Check.feed(yard, text.append(';').toString());
        return yard.yard() >= 0 ? 1 : 0;
    }
}
