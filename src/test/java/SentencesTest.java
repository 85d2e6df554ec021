import java.io.IOException;
import java.lang.reflect.Method;
import java.nio.file.Files;
import java.nio.file.Path;
import java.util.ArrayList;
import java.util.List;
import java.util.Set;
import java.util.TreeMap;
import java.util.regex.Matcher;
import java.util.regex.Pattern;
import java.util.stream.Stream;

/** Each sentence of the document has a case that quotes it, and each quote stands in the document. */
public final class SentencesTest {
    private static final Check check = new Check();
    private static final Path DOCUMENT = Path.of("../shared/DOC.md");
    private static final Path TESTS = Path.of("src/test/java");

    // Words that only name or begin something; what they name or begin has its cases.
    private static final Set<String> ASKS_NOTHING = Set.of(
        "Nodes", "Edges", "Paths", "Parts", "Capacities", "Text", "Undo", "Exceptions", "The constants",
        "Relieving a node u means", "Balancing means", "a node", "another node", "number of a node", "number of an edge",
        "a set of nodes");

    // FormTest asks for the order and the groups of the calls.
    private static final String GROUPS = "Ahead of the calls";

    private static final int NO_PROMISE = 0;

    public static void main(String[] args) throws IOException {
        TreeMap<Integer, List<String>> quotes = quotes();
        check.due("promises with cases", 29, quotes.size());
        if (Files.isReadable(DOCUMENT)) {
            compare(Files.readString(DOCUMENT), quotes);
        } else {
            System.out.println("there is no " + DOCUMENT + ": its sentences are not compared");
        }
        check.end();
    }

    /** By the promise for which the case is named. */
    private static TreeMap<Integer, List<String>> quotes() throws IOException {
        TreeMap<Integer, List<String>> quotes = new TreeMap<>();
        try (Stream<Path> files = Files.list(TESTS)) {
            for (Path file : files.sorted().toList()) {
                String name = file.getFileName().toString();
                if (name.endsWith("Test.java")) {
                    collect(name.substring(0, name.length() - ".java".length()), quotes);
                }
            }
        }
        return quotes;
    }

    private static void collect(String test, TreeMap<Integer, List<String>> quotes) {
        try {
            for (Method method : Class.forName(test).getDeclaredMethods()) {
                Says says = method.getAnnotation(Says.class);
                if (says != null) {
                    int promise = Cases.promiseOf(method);
                    quotes.computeIfAbsent(promise, p -> new ArrayList<>()).addAll(List.of(says.value()));
                }
            }
        } catch (ClassNotFoundException e) {
            check.that(test + " is compiled", false);
        }
    }

    private static void compare(String document, TreeMap<Integer, List<String>> quotes) {
        List<String> all = new ArrayList<>();
        quotes.forEach((promise, some) -> all.addAll(some));
        for (String quote : all) {
            check.that("'" + quote + "' stands in the document", document.contains(quote));
        }
        int promise = NO_PROMISE;
        int sentences = 0;
        Pattern heading = Pattern.compile("## (?:Promise (\\d+): )?.*");
        String body = document.substring(document.indexOf("## Terms"), document.indexOf("## Not promised"));
        for (String line : body.split("\n")) {
            Matcher matcher = heading.matcher(line);
            if (matcher.matches()) {
                promise = matcher.group(1) == null ? NO_PROMISE : Integer.parseInt(matcher.group(1));
            } else if (!line.startsWith(GROUPS)) {
                sentences += compareLine(line, promise, promise == NO_PROMISE ? all : quotes.getOrDefault(promise, List.of()));
            }
        }
        check.that("sentences were found", sentences > 150);
    }

    /** Returns how many sentences were looked for. */
    private static int compareLine(String line, int promise, List<String> quotes) {
        int sentences = 0;
        String text = line.strip().replaceFirst("^(- )?`[^`]*`: ", "");
        for (String part : text.split("(?<=[.:;]) ")) {
            String sentence = part.replaceFirst("[.:;]$", "");
            if (!sentence.isEmpty() && !ASKS_NOTHING.contains(sentence)) {
                sentences++;
                boolean quoted = quotes.stream().anyMatch(q -> q.contains(sentence) || sentence.contains(q));
                check.that("promise " + promise + ": a case for '" + sentence + "'", quoted);
            }
        }
        return sentences;
    }
}
