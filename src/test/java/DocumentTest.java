import java.io.IOException;
import java.lang.reflect.Method;
import java.nio.file.Files;
import java.nio.file.Path;
import java.util.Arrays;
import java.util.Map;
import java.util.TreeMap;

/**
 * Whether the tests ask about all that the document says: the words that a test asks about stand in
 * the document, and no words are left that no test asks about. The second argument is its path.
 */
public final class DocumentTest {
    private static final Class<?>[] TESTS = {
        TextTest.class, ParseTest.class, AddressTest.class, PartsTest.class, TogetherTest.class};

    /** What stands ahead of the promises, and holds for all of them. */
    private static final String AHEAD = "ahead";

    /** Words that promise nothing that a call could show. */
    private static final String[] NOTHING_PROMISED = {
        "Addresses by java.net.URI of the JDK, as a grammar: texts typed by pieces, taken or refused, told by their "
                + "parts, and put together again. <p>Theorem.",
        "what later calls answer is free",
        "(What the library documents is taken as it is documented; at which place a text is refused is told here by "
                + "these rules.)"};

    private final Map<String, String> sections = new TreeMap<>();
    /** The same, with blanks in place of the words that a test asks about. */
    private final Map<String, char[]> left = new TreeMap<>();

    public static void main(String[] args) throws IOException {
        if (args.length < 2 || !Files.exists(Path.of(args[1]))) {
            System.out.println("DocumentTest: there is no document to compare the tests with");
            return;
        }
        DocumentTest test = new DocumentTest();
        test.read(Files.readString(Path.of(args[1])));
        test.coverAll();
        test.dueCovered();
        Due.end("DocumentTest");
    }

    private void read(String document) {
        for (String section : document.split("(?m)^## ")) {
            String[] parts = section.split("\n", 2);
            String body = (parts.length < 2 ? "" : parts[1]).replaceAll("\\s+", " ").trim();
            if (parts[0].startsWith("Promise ")) {
                int number = Integer.parseInt(parts[0].replaceAll("\\D*(\\d+).*", "$1"));
                // The signature ahead is FaceTest's.
                sections.put(String.format("promise%02d", number), body.replaceFirst("^`[^`]*`", ""));
            } else if (parts[0].equals("What it is") || parts[0].equals("Terms")) {
                String headings = "Ahead of the calls [^-]*---- [a-z ]*\\.";
                sections.merge(AHEAD, body.replaceAll(headings, "").replace("<p>Rule", "Rule")
                        .replaceAll("<p>(?!Theorem)", ""), (a, b) -> a + ' ' + b);
            }
        }
        Due.due("sections", sections.size(), 27);
        sections.forEach((name, words) -> left.put(name, words.toCharArray()));
    }

    private void coverAll() {
        for (String words : NOTHING_PROMISED) {
            Due.due("the document says: " + words, cover(AHEAD, words), true);
        }
        for (Class<?> tests : TESTS) {
            for (Method test : tests.getDeclaredMethods()) {
                if (test.isAnnotationPresent(Says.class)) {
                    coverBy(test);
                }
            }
        }
    }

    private void coverBy(Method test) {
        String promise = test.getName().substring(0, Math.min(9, test.getName().length()));
        for (String words : test.getAnnotation(Says.class).value()) {
            boolean isSaidAhead = cover(AHEAD, words);
            boolean isSaid = cover(promise, words) || isSaidAhead;
            Due.due(test.getName() + ": the document says: " + words, isSaid, true);
        }
    }

    /** Blanks the words wherever they stand in the section; tells whether they do. */
    private boolean cover(String name, String words) {
        String section = sections.getOrDefault(name, "");
        int place = section.indexOf(words);
        boolean isSaid = place >= 0;
        while (place >= 0) {
            Arrays.fill(left.get(name), place, place + words.length(), ' ');
            place = section.indexOf(words, place + 1);
        }
        return isSaid;
    }

    private void dueCovered() {
        left.forEach((name, words) -> {
            String rest = new String(words).replaceAll("[-\\s.,;:]+", " ").trim();
            Due.due("words of " + name + " that no test asks about", rest, "");
        });
    }
}
