import java.io.IOException;
import java.nio.file.DirectoryStream;
import java.nio.file.Files;
import java.nio.file.Path;
import java.util.Arrays;
import java.util.HashMap;
import java.util.LinkedHashMap;
import java.util.List;
import java.util.Map;
import java.util.TreeSet;
import java.util.regex.Matcher;
import java.util.regex.Pattern;

/**
 * No test, but a look at the tests: tells which quotes of theirs ../shared/DOC.md does not have (exit code 1),
 * and which words of its terms and promises no test quotes.
 */
public final class Quotes {
    private static final Path DOCUMENT = Path.of("../shared/DOC.md");
    private static final Path TESTS = Path.of("src/test/java");
    private static final List<String> TERMS = List.of("THE FIELD", "SOUND", "A CLICK", "PAIRS AND VOTES",
            "TEXTS OF COMMANDS", "UNDO", "EXCEPTIONS");
    private static final String TEXT = "(\"(?:[^\"\\\\]|\\\\.)*\"(?:\\s*\\+\\s*\"(?:[^\"\\\\]|\\\\.)*\")*)";
    private static final Pattern NAMED = Pattern.compile("String (\\w+) = " + TEXT + ";");
    private static final Pattern SAYS = Pattern.compile("Check\\.says\\((\"[A-Za-z ]+\"|\\d+),\\s*(?:" + TEXT + "|(\\w+))\\)");
    private static final Pattern PROMISE = Pattern.compile("## Promise (\\d+):.*");

    private final Map<String, String> sections = new LinkedHashMap<>();
    private final Map<String, boolean[]> quoted = new HashMap<>();
    private int strange = 0;

    public static void main(String[] args) throws IOException {
        Quotes quotes = new Quotes();
        quotes.readDocument();
        TreeSet<Path> files = new TreeSet<>();
        try (DirectoryStream<Path> all = Files.newDirectoryStream(TESTS, "*Test.java")) {
            all.forEach(files::add);
        }
        for (Path file : files) {
            quotes.readTest(file.getFileName().toString(), Files.readString(file));
        }
        quotes.tellUnquoted();
        if (quotes.strange > 0) {
            System.exit(1);
        }
    }

    private void readDocument() throws IOException {
        String section = "";
        for (String line : Files.readAllLines(DOCUMENT)) {
            Matcher promise = PROMISE.matcher(line);
            if (promise.matches()) {
                section = promise.group(1);
            } else if (line.startsWith("## ")) {
                section = line.substring(3);
            } else if (TERMS.contains(line.strip())) {
                section = line.strip();
            } else {
                sections.merge(section, line, (text, next) -> text + " " + next);
            }
        }
        sections.replaceAll((name, text) -> plain(text));
        sections.forEach((name, text) -> quoted.put(name, new boolean[text.length()]));
    }

    /** The text with single spaces, and all quotation marks alike. */
    private static String plain(String text) {
        return text.replaceAll("\\s+", " ").replace('\u201c', '"').replace('\u201d', '"').strip();
    }

    private static String joined(String literals) {
        StringBuilder text = new StringBuilder();
        Matcher one = Pattern.compile("\"((?:[^\"\\\\]|\\\\.)*)\"").matcher(literals);
        while (one.find()) {
            text.append(one.group(1).replace("\\\"", "\""));
        }
        return plain(text.toString());
    }

    private void readTest(String file, String source) {
        Map<String, String> named = new HashMap<>();
        Matcher name = NAMED.matcher(source);
        while (name.find()) {
            named.put(name.group(1), joined(name.group(2)));
        }
        Matcher says = SAYS.matcher(source);
        while (says.find()) {
            String quote = says.group(2) == null ? named.getOrDefault(says.group(3), "") : joined(says.group(2));
            mark(file, says.group(1).replace("\"", ""), quote);
        }
    }

    private void mark(String file, String section, String quote) {
        String text = sections.getOrDefault(section, "");
        int at = quote.isEmpty() ? -1 : text.indexOf(quote);
        if (at < 0) {
            strange++;
            System.out.println(file + ": the document does not say, in " + section + ": " + quote);
        }
        while (at >= 0) {
            Arrays.fill(quoted.get(section), at, at + quote.length(), true);
            at = text.indexOf(quote, at + 1);
        }
    }

    private void tellUnquoted() {
        for (Map.Entry<String, String> section : sections.entrySet()) {
            String name = section.getKey();
            if (!TERMS.contains(name) && !name.equals("Terms") && !name.matches("\\d+")) {
                continue;
            }
            StringBuilder rest = new StringBuilder();
            for (int i = 0; i < section.getValue().length(); i++) {
                rest.append(quoted.get(name)[i] ? '\n' : section.getValue().charAt(i));
            }
            for (String words : rest.toString().split("\n+")) {
                if (words.strip().length() > 3) {
                    System.out.println("not quoted, in " + name + ": " + words.strip());
                }
            }
        }
    }
}
