import java.io.IOException;
import java.nio.file.Files;
import java.nio.file.Path;
import java.util.LinkedHashSet;
import java.util.Set;
import java.util.TreeSet;

/**
 * The sentences of ../shared/DOC.md by their promises (0 for 'What it is' and 'Terms'), and which
 * of them have been looked at by a test of their own.
 */
final class Sentences {
    private static final Path DOCUMENT = Path.of("../shared/DOC.md");
    private static final int NO_PROMISE = -1;

    private final Set<String> said = new LinkedHashSet<>();
    private final Set<String> tested = new TreeSet<>();

    Sentences() throws IOException {
        int promise = NO_PROMISE;
        boolean isCode = false;
        for (String line : Files.readAllLines(DOCUMENT)) {
            if (line.startsWith("```")) {
                isCode = !isCode;
            } else if (line.startsWith("## ")) {
                promise = promiseOf(line.substring(3));
            } else if (!isCode && promise != NO_PROMISE) {
                addSentences(promise, line);
            }
        }
    }

    private static int promiseOf(String heading) {
        if (heading.equals("What it is") || heading.equals("Terms")) {
            return 0;
        }
        return heading.startsWith("Promise ")
                ? Integer.parseInt(heading.substring(8, heading.indexOf(':'))) : NO_PROMISE;
    }

    private void addSentences(int promise, String line) {
        String words = line.strip().replaceFirst("^`[^`]*\\([^`]*`: ", "");
        for (String sentence : words.split("(?<=[.:]) (?=[A-Z])")) {
            if (!sentence.isEmpty()) {
                said.add(promise + ": " + sentence);
            }
        }
    }

    /** A test of its own for a sentence that the document says of this promise. */
    void holds(int promise, String sentence, Runnable test) {
        String name = promise + ": " + sentence;
        Check.lookAt("");
        Check.equal("the document says " + name, true, said.contains(name));
        Check.equal("there is one test of " + name, true, tested.add(name));
        Check.lookAt("promise " + name + " | ");
        int checks = Check.count();
        try {
            test.run();
        } catch (RuntimeException thrown) {
            Check.equal("the test itself", "no exception", thrown.toString());
        }
        Check.equal("the test looks at something", true, Check.count() > checks);
        Check.lookAt("");
    }

    /** Every sentence has a test, but those that name no boundary case. */
    void allAreTested() {
        for (String sentence : said) {
            boolean isDue = !namesNoBoundary(sentence.substring(sentence.indexOf(' ') + 1));
            Check.equal("a test of " + sentence, true, !isDue || tested.contains(sentence));
        }
    }

    /** A heading, a parameter without bounds, or what a call returns (tested where it has bounds). */
    private static boolean namesNoBoundary(String sentence) {
        return sentence.matches("\\w+\\.") || sentence.matches("- `\\w+`: [^0-9]*")
                || sentence.startsWith("Returns ") || sentence.startsWith("Ahead of the calls ")
                || sentence.startsWith("The proceedings of a parliament");
    }
}
