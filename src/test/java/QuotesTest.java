import java.io.IOException;
import java.nio.file.Files;
import java.nio.file.Path;
import java.util.ArrayList;
import java.util.List;
import java.util.regex.Matcher;
import java.util.regex.Pattern;
import java.util.stream.Collectors;
import java.util.stream.Stream;

/** Each sentence of the document that says what a call answers or changes is quoted by a test that is run. */
public final class QuotesTest {
    private static final Path DOCUMENT = Path.of("../shared/DOC.md");
    private static final Path TESTS = Path.of("src/test/java");

    /** What no call can answer: the tale, the headings, what is free; the face is read by FaceTest. */
    private static final String[] SAYS_NOTHING_OF_ANSWERS = {
        "\\A.*?(?=An object is used for at most 512 calls)", "what later calls answer is free\\.", "## The public face ```java.*?```",
        "======== [123]", "```text", "## Terms", "## Promise \\d+: (A new object|\\w+)", "Ahead of the calls.*?draws, images\\.",
        "## Not promised.*\\z"};

    private static final String LITERAL = "\"((?:[^\"\\\\]|\\\\.)*)\"";
    private static final Pattern QUOTE = Pattern.compile("Check\\.sentence\\((\\s*" + LITERAL + "(?:\\s*\\+\\s*" + LITERAL + ")*)\\)");
    private static final Pattern FUNCTION = Pattern.compile("private static \\w+(?:\\[\\])* (\\w+)\\(");

    public static void main(String[] args) throws IOException {
        List<String> sources = sources();
        String document = Files.readString(DOCUMENT).replaceAll("\\s+", " ");
        for (String pattern : SAYS_NOTHING_OF_ANSWERS) document = blotted(document, pattern);
        String text = document.replace("`", "");
        boolean[] quoted = new boolean[text.length()];
        for (String source : sources) {
            for (String quote : quotes(source)) mark(text, quote, quoted);
            everyFunctionIsCalled(source);
        }
        Check.same("words of the document that no test quotes", left(text, quoted), "");
        Check.end();
    }

    private static List<String> sources() throws IOException {
        List<Path> paths;
        try (Stream<Path> all = Files.list(TESTS)) {
            paths = all.filter(path -> path.toString().endsWith("Test.java")).sorted().collect(Collectors.toList());
        }
        List<String> sources = new ArrayList<>();
        for (Path path : paths) sources.add(Files.readString(path));
        return sources;
    }

    private static String blotted(String document, String pattern) {
        Matcher found = Pattern.compile(pattern).matcher(document);
        Check.due("[" + pattern + "] stands in the document", found.find() ? 1 : 0, 1);
        return found.replaceAll(part -> " ".repeat(part.group().length()));
    }

    private static List<String> quotes(String source) {
        List<String> quotes = new ArrayList<>();
        Matcher quote = QUOTE.matcher(source);
        while (quote.find()) {
            StringBuilder words = new StringBuilder();
            Matcher part = Pattern.compile(LITERAL).matcher(quote.group(1));
            while (part.find()) words.append(part.group(1));
            quotes.add(words.toString().replaceAll("\\s+", " ").replace("`", ""));
        }
        return quotes;
    }

    private static void mark(String text, String quote, boolean[] quoted) {
        for (int at = text.indexOf(quote); at >= 0; at = text.indexOf(quote, at + 1)) {
            for (int i = at; i < at + quote.length(); i++) quoted[i] = true;
        }
    }

    private static String left(String text, boolean[] quoted) {
        StringBuilder left = new StringBuilder();
        for (int i = 0; i < quoted.length; i++) {
            boolean isWord = Character.isLetterOrDigit(text.charAt(i));
            if (isWord && !quoted[i]) left.append(text.charAt(i));
            else if (left.length() > 0 && left.charAt(left.length() - 1) != ' ') left.append(' ');
        }
        return left.toString().trim();
    }

    /** A function of a test that nobody calls tests nothing. */
    private static void everyFunctionIsCalled(String source) {
        Matcher function = FUNCTION.matcher(source);
        while (function.find()) {
            String name = function.group(1);
            Matcher use = Pattern.compile("(?<!\\w)" + name + "\\(|::" + name + "\\b").matcher(source);
            int uses = 0;
            while (use.find()) uses++;
            Check.due(name + " is called", uses > 1 ? 1 : 0, 1);
        }
    }
}
