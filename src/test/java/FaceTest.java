import java.io.IOException;
import java.lang.reflect.Constructor;
import java.lang.reflect.Field;
import java.lang.reflect.Method;
import java.lang.reflect.Modifier;
import java.nio.file.Files;
import java.nio.file.Path;
import java.util.ArrayList;
import java.util.Arrays;
import java.util.List;
import java.util.Set;
import java.util.TreeSet;
import java.util.regex.Matcher;
import java.util.regex.Pattern;

/** The public face of the document, and what of LANGUAGE.md can be seen by a plain look. */
public final class FaceTest {
    private static final Path SOURCE = Path.of("src/main/java/PalaceYard.java");
    private static final Path DOCUMENT = Path.of("../shared/DOC.md");

    private static final String[] FACE = {
        "accepts(int,int)", "chain(int,int)", "cheapest(int,int)", "composition(int,int)", "debtor(int,int)", "drift(int)",
        "fault()", "feed(int)", "goBack(int)", "goIn(int)", "goOut(int)", "hat(int,boolean)", "judge()", "keep(int)",
        "lend(int,int,int)", "look()", "outing(int,int)", "over(int)", "owes(int,int)", "place(int,int)", "quiet(int,int)",
        "seed(int)", "settle(int)", "soon(int)", "sue(int,int)", "tear()", "told(int)", "undo()", "week(int)",
        "write(int,int)", "yard()", "year(int,int)"};

    private static final String[] FORBIDDEN = {
        "\\bthrow\\b", "\\btry\\b", "\\bcatch\\b", "\\bsynchronized\\b", "\\bassert\\b", "\\bpackage\\b", "->", "::", "\\w+Exact\\b",
        "\\bprotected\\b", "\\bvar\\b", "\\bdouble\\b", "\\bfloat\\b", "static\\s*\\{", "\\bnew\\s+\\w+\\s*\\([^)]*\\)\\s*\\{",
        "\"", "\\bObject\\b", "\\bnull\\b", "@", "\\bwhile\\b", "\\bSystem\\.(?!arraycopy)", "\\bArrays\\.(?!fill)",
        "\\bMath\\.(?!max|min|abs)", "\\bInteger\\.(?!bitCount)", "^import (?!java\\.util\\.Arrays;)"};

    public static void main(String[] args) throws IOException {
        constants();
        face();
        classesInside();
        asTheDocumentWritesIt(Files.readString(DOCUMENT), Files.readString(SOURCE));
        asTheInterfaceSays(Files.readString(DOCUMENT), Files.readString(SOURCE));
        String code = bare(Files.readString(SOURCE));
        for (String pattern : FORBIDDEN) {
            Matcher found = Pattern.compile(pattern, Pattern.MULTILINE).matcher(code);
            Check.same("LANGUAGE " + pattern, found.find() ? found.group() : "", "");
        }
        methodLengths(code);
        Check.end();
    }

    private static void constants() {
        Check.due("NONE", PalaceYard.NONE, -1);
        Check.due("UNKNOWN", PalaceYard.UNKNOWN, -1000000001);
        Check.due("OUTSIDE", PalaceYard.OUTSIDE, -1000000002);
        Check.due("NOT", PalaceYard.NOT, -1000000003);
        Check.due("FULL", PalaceYard.FULL, -1000000004);
        Set<String> seen = new TreeSet<>();
        for (Field field : PalaceYard.class.getDeclaredFields()) {
            if (!Modifier.isPrivate(field.getModifiers())) seen.add(field.getName());
            if (Modifier.isStatic(field.getModifiers())) Check.due(field + " is final", Modifier.isFinal(field.getModifiers()) ? 1 : 0, 1);
        }
        Check.same("constants", seen.toString(), "[FULL, NONE, NOT, OUTSIDE, UNKNOWN]");
    }

    /** Every public line, with its names, in the document's order. */
    private static void asTheDocumentWritesIt(String document, String source) {
        Matcher block = Pattern.compile("```java\n(.*?)```", Pattern.DOTALL).matcher(document);
        Check.due("the document has a face", block.find() ? 1 : 0, 1);
        List<String> due = publicLines(block.group(1));
        Check.due("a class, its constants, a constructor, 32 methods", due.size(), 35);
        Check.same("the face as it is written", String.join("\n", publicLines(source)), String.join("\n", due));
    }

    private static List<String> publicLines(String code) {
        List<String> lines = new ArrayList<>();
        Matcher line = Pattern.compile("^ *(public [^;{]*)[;{]", Pattern.MULTILINE).matcher(code);
        while (line.find()) lines.add(line.group(1).trim());
        return lines;
    }

    /** "Ahead of the calls .. the interface says: ---- .." */
    private static void asTheInterfaceSays(String document, String source) {
        Matcher says = Pattern.compile("Ahead of the calls (.*) the interface says: (---- .*)\\.").matcher(document);
        int parts = 0;
        while (says.find()) {
            parts++;
            int from = source.indexOf("// " + says.group(2) + "\n");
            int to = source.indexOf("// ----", from + 1);
            Check.due("says " + says.group(2), from >= 0 && to > from ? 1 : 0, 1);
            if (from < 0 || to < from) continue;
            List<String> calls = new ArrayList<>();
            Matcher call = Pattern.compile("public int (\\w+)\\(").matcher(source.substring(from, to));
            while (call.find()) calls.add(call.group(1));
            Check.same(says.group(2), String.join(", ", calls), says.group(1).replace("`", ""));
        }
        Check.due("parts of the interface", parts, 5);
    }

    private static String form(Method method) {
        List<String> types = new ArrayList<>();
        for (Class<?> type : method.getParameterTypes()) types.add(type.getName());
        return method.getName() + "(" + String.join(",", types) + ")";
    }

    private static void face() {
        Check.due("public final class", PalaceYard.class.getModifiers(), Modifier.PUBLIC | Modifier.FINAL);
        Set<String> open = new TreeSet<>();
        Set<String> names = new TreeSet<>();
        for (Method method : PalaceYard.class.getDeclaredMethods()) {
            if (Modifier.isPrivate(method.getModifiers())) continue;
            open.add(form(method));
            names.add(method.getName());
            Check.due(method + " is public alone", method.getModifiers(), Modifier.PUBLIC);
            Check.same(method + " answers", method.getReturnType().getName(), "int");
        }
        Check.same("the face", open.toString(), new TreeSet<>(Arrays.asList(FACE)).toString());
        for (Method method : PalaceYard.class.getDeclaredMethods()) {
            if (Modifier.isPrivate(method.getModifiers())) Check.due(method + " has a name of its own", names.contains(method.getName()) ? 1 : 0, 0);
        }
        Constructor<?>[] made = PalaceYard.class.getDeclaredConstructors();
        Check.due("one constructor", made.length, 1);
        Check.due("it is public", made[0].getModifiers(), Modifier.PUBLIC);
        Check.due("without parameters", made[0].getParameterCount(), 0);
    }

    private static void classesInside() {
        Class<?>[] inside = PalaceYard.class.getDeclaredClasses();
        Check.due("some twelve classes", inside.length < 12 ? 1 : 0, 1);
        List<Class<?>> all = new ArrayList<>(Arrays.asList(inside));
        all.add(PalaceYard.class);
        for (Class<?> one : all) {
            int fields = 0;
            for (Field field : one.getDeclaredFields()) {
                if (Modifier.isStatic(field.getModifiers())) constant(field);
                else fields++;
            }
            Check.due(one + " has some twenty fields: " + fields, fields <= 20 ? 1 : 0, 1);
            for (Method method : one.getDeclaredMethods()) {
                Check.due(method + " takes seven at most", method.getParameterCount() <= 7 ? 1 : 0, 1);
                if (one != PalaceYard.class) Check.due(method + " has a name of its own", isOfTheFace(method.getName()) ? 1 : 0, 0);
            }
            if (one == PalaceYard.class) continue;
            Check.due(one + " is static", Modifier.isStatic(one.getModifiers()) ? 1 : 0, 1);
            Check.due(one + " is not public", Modifier.isPublic(one.getModifiers()) ? 1 : 0, 0);
        }
    }

    private static void constant(Field field) {
        Check.due(field + " is final", Modifier.isFinal(field.getModifiers()) ? 1 : 0, 1);
        Class<?> type = field.getType();
        boolean plain = type == int.class || type == long.class || type == boolean.class || type == char.class || type == String.class;
        boolean row = type == int[].class || type == long[].class || type == char[].class || type == byte[].class;
        Check.due(field + " is of a type that a constant may have", plain || row ? 1 : 0, 1);
    }

    private static boolean isOfTheFace(String name) {
        for (String method : FACE) if (method.startsWith(name + "(")) return true;
        return false;
    }

    /** The source without comments and what stands in quotes. */
    private static String bare(String source) {
        String code = Pattern.compile("/\\*.*?\\*/", Pattern.DOTALL).matcher(source).replaceAll("");
        return code.replaceAll("//[^\n]*", "").replaceAll("'.'", "0");
    }

    private static void methodLengths(String code) {
        String[] lines = code.split("\n");
        int first = -1;
        String indent = "";
        for (int i = 0; i < lines.length; i++) {
            Matcher head = Pattern.compile("^( {4}| {8})[^ ].*\\) \\{$").matcher(lines[i]);
            if (first < 0 && head.find()) {
                first = i;
                indent = head.group(1);
            } else if (first >= 0 && lines[i].equals(indent + "}")) {
                Check.due("a method of " + (i - first) + " lines: " + lines[first].trim(), i - first < 60 ? 1 : 0, 1);
                first = -1;
            }
        }
    }
}
