import java.io.IOException;
import java.nio.file.Files;
import java.nio.file.Path;
import java.util.ArrayList;
import java.util.Arrays;
import java.util.List;
import java.util.TreeSet;
import java.util.regex.Matcher;
import java.util.regex.Pattern;
import java.util.stream.Stream;

/**
 * Every test of a boundary says in a remark which promise and which sentence it holds: the words it quotes stand in
 * the document, and no sentence of the promises or of the Terms is left without a test.
 */
public final class RemarksTest {
    private static final Path DOCUMENT = Path.of("../shared/DOC.md");
    private static final Path TESTS = Path.of("src/test/java");
    private static final Pattern METHOD = Pattern.compile("((?:/\\*\\*(?:[^*]|\\*(?!/))*\\*/\\s*)?)private static void (\\w+)\\(\\) \\{");
    private static final Pattern REMARK = Pattern.compile("Promise (\\d+)(, Terms)?: \"([^\"]*)\"");

    private static final int TERMS = 0;

    /** Of each remark the promise whose section it quotes, or TERMS, and its words. */
    private static final List<Integer> places = new ArrayList<>();
    private static final List<String> quotes = new ArrayList<>();
    private static final TreeSet<Integer> promises = new TreeSet<>();
    private static int wrong = 0;

    public static void main(String[] args) throws IOException {
        if (!Files.isReadable(DOCUMENT)) {
            System.out.println("there is no " + DOCUMENT + " to find the remarks' words in");
            return;
        }
        String document = Files.readString(DOCUMENT);
        try (Stream<Path> files = Files.list(TESTS)) {
            for (Path file : files.filter(path -> path.getFileName().toString().startsWith("Boundary")).sorted().toList()) {
                readRemarks(file.getFileName().toString(), Files.readString(file), document);
            }
        }
        for (int promise = 1; promise <= 31; promise++) {
            check("promise " + promise + " has a test", promises.contains(promise));
            everySentence(promise, "promise " + promise, promiseOf(document, promise).replaceFirst("^[^`]*`[^`]*`:", ""));
        }
        everySentence(TERMS, "Terms", termsOf(document));
        System.out.println(quotes.size() + " remarks, " + wrong + " are not as due");
        if (wrong != 0) {
            System.exit(1);
        }
    }

    private static void readRemarks(String name, String text, String document) {
        Matcher method = METHOD.matcher(text);
        while (method.find()) {
            String remark = plain(method.group(1).replaceAll("/\\*\\*|\\*/|\n\\s*\\*", " "));
            Matcher quote = REMARK.matcher(remark);
            if (!quote.find()) {
                check(name + ", " + method.group(2) + " has a remark", false);
                continue;
            }
            int promise = Integer.parseInt(quote.group(1));
            String words = plain(quote.group(3));
            String place = quote.group(2) == null ? promiseOf(document, promise) : termsOf(document);
            check(name + ", " + method.group(2) + ": the document says: " + words, place.contains(words));
            promises.add(promise);
            places.add(quote.group(2) == null ? promise : TERMS);
            quotes.add(words);
        }
    }

    /** What no remark quotes is only the signs between the sentences, and the numbers of the parts. */
    private static void everySentence(int place, String where, String section) {
        boolean[] held = new boolean[section.length()];
        for (int quote = 0; quote < quotes.size(); quote++) {
            String words = quotes.get(quote);
            int at = places.get(quote) == place ? section.indexOf(words) : -1;
            while (at >= 0) {
                Arrays.fill(held, at, at + words.length(), true);
                at = section.indexOf(words, at + 1);
            }
        }
        StringBuilder rest = new StringBuilder();
        for (int i = 0; i < held.length; i++) {
            rest.append(held[i] ? '\n' : section.charAt(i));
        }
        for (String piece : rest.toString().split("\n+")) {
            String bare = piece.replaceAll("```(text)?|==== I+\\.", "");
            check(where + ": a test holds: " + bare.trim(), !bare.matches(".*[A-Za-z0-9].*"));
        }
    }

    private static String promiseOf(String document, int promise) {
        return section(document, "## Promise " + promise + ": ");
    }

    private static String termsOf(String document) {
        return section(document, "## Terms").replaceFirst("The constants: .*$", "");
    }

    private static String section(String document, String head) {
        int start = document.indexOf(head);
        if (start < 0) {
            return "";
        }
        int line = document.indexOf('\n', start);
        int stop = document.indexOf("\n## ", line);
        return plain(document.substring(line, stop < 0 ? document.length() : stop));
    }

    private static String plain(String text) {
        return text.replaceAll("\\s+", " ").trim();
    }

    private static void check(String what, boolean holds) {
        if (!holds) {
            wrong++;
            System.out.println("not so: " + what);
        }
    }
}
