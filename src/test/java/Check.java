import java.io.IOException;
import java.io.UncheckedIOException;
import java.nio.file.Files;
import java.nio.file.Path;

/** Counts answers that are not as due, and tells each of them. */
final class Check {
    static final int NONE = -1, UNKNOWN = -1000000001, OUTSIDE = -1000000002, NOT = -1000000003, FULL = -1000000004;

    /** The yard that most tests use: 2 CREDITORS, 4 DEBTORS, 4 PLACES. */
    static final String TOWN = "y10 2 1;c80 10;c4 0;d0 100 30;d0 50 5;d1 300 12;d0 100 20;"
            + "p3 4 10;p0 5 7;p10 10 50;p3 5 1;";

    /** Without bailiffs and rent, with wealth: nobody is ever moved by a WEEK. */
    static final String RICH = "y0 6 0;c100 0;d0 999 99;d0 999 99;d0 999 99;d0 999 0;d0 999 0;d0 999 50;";

    private static final Path DOCUMENT = Path.of("../shared/DOC.md");

    private static String document = "";
    private static String sentence = "";
    private static int asked = 0;
    private static int wrong = 0;

    private Check() {
    }

    /** What follows tests these words; they must stand in the document, or the test is out of date. */
    static void sentence(String words) {
        if (document.isEmpty()) document = plain(read());
        sentence = words;
        asked++;
        if (document.contains(plain(words))) return;
        wrong++;
        System.out.println("not in the document: " + words);
    }

    private static String read() {
        try {
            return Files.readString(DOCUMENT);
        } catch (IOException e) {
            throw new UncheckedIOException(e);
        }
    }

    private static String plain(String text) {
        return text.replaceAll("\\s+", " ").replace("`", "");
    }

    static void due(String what, long got, long want) {
        asked++;
        if (got == want) return;
        tell(what + " answered " + got + ", due is " + want);
    }

    static void same(String what, String got, String want) {
        asked++;
        if (got.equals(want)) return;
        tell(what + ":\n  is  " + got + "\n  due " + want);
    }

    private static void tell(String what) {
        wrong++;
        System.out.println(sentence.isEmpty() ? what : "\"" + sentence + "\": " + what);
    }

    static void feed(Counted yard, String text) {
        for (int i = 0; i < text.length(); i++) {
            if (yard.feed(text.charAt(i)) < 0) throw new IllegalStateException("refused letter " + i + " of " + text);
        }
    }

    static Counted told(String text) {
        Counted yard = new Counted();
        feed(yard, text);
        if (yard.yard() < 0) throw new IllegalStateException("fault at " + yard.fault() + " of " + text);
        return yard;
    }

    /** All of section 2 and what can be undone, in one text. */
    static String lifeOf(Counted yard) {
        StringBuilder all = new StringBuilder();
        for (int what = 7; what <= 17; what++) all.append(yard.told(what)).append(' ');
        int debtors = yard.told(4);
        for (int d = 0; d < debtors; d++) {
            all.append(yard.debtor(d, 4)).append(' ');
            for (int e = 0; e < debtors; e++) if (d != e) all.append(yard.owes(d, e)).append(' ');
        }
        return all.append(yard.told(20)).toString();
    }

    /** What the text told, in one text. */
    static String closeOf(Counted yard) {
        StringBuilder all = new StringBuilder();
        for (int what = 0; what <= 5; what++) all.append(yard.told(what)).append(' ');
        int creditors = yard.told(3);
        for (int c = 0; c < creditors; c++) all.append(yard.accepts(c, 0)).append(' ').append(yard.accepts(c, 1)).append(' ');
        int debtors = yard.told(4);
        for (int d = 0; d < debtors; d++) {
            for (int what = 0; what <= 2; what++) all.append(yard.debtor(d, what)).append(' ');
        }
        int places = yard.told(5);
        for (int p = 0; p < places; p++) {
            for (int what = 0; what <= 2; what++) all.append(yard.place(p, what)).append(' ');
        }
        return all.toString();
    }

    /** What is known of HATS, THE BOOK, THE TEXT's length. */
    static String restOf(Counted yard) {
        StringBuilder all = new StringBuilder();
        for (int what = 0; what <= 2; what++) all.append(yard.over(what)).append(' ');
        all.append(yard.look()).append(' ').append(yard.judge()).append(' ').append(yard.told(6)).append(' ');
        return all.append(yard.told(18)).append(' ').append(yard.told(19)).toString();
    }

    /** All that can be asked of what is so, but for the latest FAULT, in one text. */
    static String allOf(Counted yard) {
        return closeOf(yard) + "/ " + lifeOf(yard) + " / " + restOf(yard);
    }

    static void end() {
        System.out.println(asked + " answers asked, " + wrong + " not as due");
        if (wrong != 0) System.exit(1);
    }
}
