import java.util.Arrays;
import java.util.LinkedHashMap;
import java.util.LinkedHashSet;
import java.util.List;
import java.util.Map;
import java.util.Set;
import java.util.regex.Pattern;

/**
 * The sentences of the document, and the tests of single sentences: a sentence that names a
 * boundary case must have one, and a test must name a sentence that stands in the document.
 */
final class Sentences {
    /** The words by which a sentence is taken to name a boundary case. */
    private static final Pattern BOUNDARY = Pattern.compile("\\d|Throws|at most|up to|fewer|less"
        + " than|longest|lowest|greatest|initially|first|latest|empty|even if|unless|only if"
        + "|several|Otherwise|proper prefix|so far|afterwards|stays|replacing|starting|would"
        + "|until|including|nothing|together|\\b(no|not|none|neither|any|all|copy|false|still"
        + "|again)\\b");

    private static final Set<String> CANNOT_BE_TESTED = Set.of("The class is not thread-safe.");

    private final Map<String, Set<String>> document = new LinkedHashMap<>();
    private final Set<String> untested = new LinkedHashSet<>();
    private String heading = "";

    Sentences(String text) {
        for (String section : text.split("(?m)^## ")) {
            String[] parts = section.split("\n", 2);
            if (parts[0].matches("What it is|Terms|Promise \\d+: .*")) {
                document.put(parts[0], sentencesIn(parts[1]));
            }
        }
        document.forEach((where, sentences) -> {
            for (String sentence : sentences) {
                if (namesBoundary(sentence)) {
                    untested.add(where + ": " + sentence);
                }
            }
        });
    }

    private static Set<String> sentencesIn(String section) {
        Set<String> sentences = new LinkedHashSet<>();
        for (String paragraph : section.split("\n\\s*\n|\n(?=- )")) {
            String line = paragraph.strip().replaceAll("\\s+", " ").replaceFirst("^- ", "");
            sentences.addAll(List.of(line.split("(?<=[.;:]) (?=[A-Z])|(?<=\\.) (?=\")")));
        }
        return sentences;
    }

    private static boolean namesBoundary(String sentence) {
        boolean isSignature = sentence.startsWith("`") && sentence.endsWith("`:");
        return !isSignature && BOUNDARY.matcher(sentence).find()
            && !CANNOT_BE_TESTED.contains(sentence);
    }

    /** The heading under which the sentences of the next tests stand. */
    void under(String newHeading) {
        heading = newHeading;
        Expect.equal("a heading of the document", true, document.containsKey(heading));
    }

    /** Runs the test of a sentence; tells the sentence if a check of the test is wrong. */
    void test(String sentence, Runnable test) {
        int checks = Expect.checksSoFar();
        int wrong = Expect.wrongSoFar();
        try {
            test.run();
        } catch (RuntimeException thrown) {
            Expect.equal("the test ends by", "its last line", Arrays.asList(thrown,
                thrown.getStackTrace()[0]).toString());
        }
        Expect.equal("the test checks something", true, Expect.checksSoFar() > checks);
        Expect.equal("the sentence stands in the document", true,
            document.getOrDefault(heading, Set.of()).contains(sentence));
        untested.remove(heading + ": " + sentence);
        if (Expect.wrongSoFar() > wrong) {
            System.out.println("    so this does not hold: " + heading + ": " + sentence);
        }
    }

    void expectAllTested() {
        Expect.equal("sentences without a test", "", String.join("\n", untested));
        Expect.equal("sections: the beginning, the terms and 65 promises", 67, document.size());
    }
}
