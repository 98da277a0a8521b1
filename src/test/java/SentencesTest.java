import java.io.IOException;
import java.nio.file.Files;
import java.nio.file.Path;
import java.util.ArrayList;
import java.util.List;
import java.util.Map;
import java.util.TreeMap;
import java.util.regex.Matcher;
import java.util.regex.Pattern;
import java.util.stream.Stream;

/**
 * The tests name the sentence that they hold the class to: each of those words stands in the document, under the number that is
 * named or among its terms, and no word of the terms and of the promises is left without a test.
 */
public final class SentencesTest {
    private static final Check check = new Check();
    private static final Path DOCUMENT = Path.of("../shared/DOC.md");
    private static final Path TESTS = Path.of("src/test/java");
    private static final Pattern SAYS = Pattern.compile("check\\.says\\((\\d+),\\s*((?:\"[^\"]*\"\\s*\\+?\\s*)+)\\)");
    private static final Pattern WORDS = Pattern.compile("\"([^\"]*)\"");
    private static final Pattern PROMISE = Pattern.compile("(?m)^## Promise (\\d+): .*$");

    /** Part of the document, and which of its signs a test has named. */
    private static final class Part {
        final String text;
        final boolean[] named;

        Part(String text) {
            this.text = text.replaceAll("\\s+", " ");
            this.named = new boolean[this.text.length()];
        }

        boolean names(String words) {
            boolean found = false;
            for (int at = text.indexOf(words); at >= 0; at = text.indexOf(words, at + 1)) {
                found = true;
                for (int i = at; i < at + words.length(); i++) {
                    named[i] = true;
                }
            }
            return found;
        }

        List<String> unnamed() {
            StringBuilder rest = new StringBuilder();
            for (int i = 0; i < named.length; i++) {
                rest.append(named[i] ? '|' : text.charAt(i));
            }
            List<String> all = new ArrayList<>();
            for (String piece : rest.toString().split("\\|+")) {
                if (piece.matches(".*[A-Za-z0-9].*")) {
                    all.add(piece.trim());
                }
            }
            return all;
        }
    }

    public static void main(String[] args) throws IOException {
        String document = Files.readString(DOCUMENT);
        Part terms = termsOf(document);
        Map<Integer, Part> promises = promisesOf(document);
        check.due(39, promises.size(), "promises of the document");
        Map<Integer, Integer> tested = new TreeMap<>();
        try (Stream<Path> files = Files.list(TESTS)) {
            for (Path file : files.sorted().toList()) {
                look(file, terms, promises, tested);
            }
        }
        for (int number = 1; number <= 39; number++) {
            check.due(true, tested.containsKey(number), "promise " + number + " has a test of its own words");
        }
        for (String rest : terms.unnamed()) {
            check.due(true, false, "the terms' words '" + rest + "' have a test");
        }
        for (Map.Entry<Integer, Part> promise : promises.entrySet()) {
            for (String rest : promise.getValue().unnamed()) {
                check.due(true, false, "promise " + promise.getKey() + "'s words '" + rest + "' have a test");
            }
        }
        check.end();
    }

    private static void look(Path file, Part terms, Map<Integer, Part> promises, Map<Integer, Integer> tested) throws IOException {
        Matcher says = SAYS.matcher(Files.readString(file));
        while (says.find()) {
            int number = Integer.parseInt(says.group(1));
            StringBuilder words = new StringBuilder();
            Matcher piece = WORDS.matcher(says.group(2));
            while (piece.find()) {
                words.append(piece.group(1));
            }
            Part own = promises.get(number);
            boolean byPromise = own != null && own.names(words.toString());
            boolean byTerms = terms.names(words.toString());
            if (byPromise) {
                tested.merge(number, 1, Integer::sum);
            }
            check.due(true, byPromise || byTerms, file.getFileName() + " names words of the document: " + number + ", " + words);
        }
    }

    /** The terms and the constants; what only sets them in order is left out. */
    private static Part termsOf(String document) {
        int from = document.indexOf("## Terms");
        int to = document.indexOf("Ahead of the calls");
        check.due(true, from >= 0 && to > from, "the document has terms");
        String use = "An object is used for at most 512 calls after it has been made";
        check.due(true, document.contains(use), "the document says how long an object is used");
        String terms = document.substring(from + "## Terms".length(), to);
        return new Part((use + "\n" + terms).replaceAll("(?m)^```(text)?$", " ").replaceAll("==== [0-9]\\. ", ""));
    }

    /** Each promise's own words, without the call's head. */
    private static Map<Integer, Part> promisesOf(String document) {
        Map<Integer, Part> all = new TreeMap<>();
        String until = document.substring(0, document.indexOf("## Not promised"));
        Matcher heading = PROMISE.matcher(until);
        int number = 0;
        int from = 0;
        while (heading.find()) {
            if (number > 0) {
                all.put(number, new Part(until.substring(from, heading.start()).replaceFirst("`[^`]*`:", "")));
            }
            number = Integer.parseInt(heading.group(1));
            from = heading.end();
        }
        all.put(number, new Part(until.substring(from).replaceFirst("`[^`]*`:", "")));
        return all;
    }
}
