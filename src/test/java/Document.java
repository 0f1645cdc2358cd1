import java.io.IOException;
import java.nio.file.Files;
import java.nio.file.Path;
import java.util.ArrayList;
import java.util.LinkedHashSet;
import java.util.List;
import java.util.Set;

/** The sentences of the document, and which of them have had a test. */
final class Document {
    private static final Path PLACE = Path.of("..", "shared", "DOC.md");

    private final Set<String> tested = new LinkedHashSet<>();

    /** Runs a sentence's test; whatever it throws is a fault. */
    void test(String section, String sentence, Runnable test) {
        Check.same("a second test of one sentence: " + section + ": " + sentence, tested.add(section + ": " + sentence), true);
        Check.about(section + ": \"" + sentence + "\"");
        try {
            test.run();
        } catch (RuntimeException e) {
            Check.same("the test itself", e, "an end");
        }
        Check.about("");
    }

    /** No sentence is without a test, and none that was tested has been written anew since. */
    void everySentenceHadATest() throws IOException {
        if (!Files.exists(PLACE)) {
            System.out.println("not looked at, whether every sentence has a test: there is no " + PLACE);
            return;
        }
        Set<String> due = new LinkedHashSet<>(sentences(Files.readString(PLACE)));
        Set<String> untested = new LinkedHashSet<>(due);
        untested.removeAll(tested);
        Check.same("sentences without a test", untested, Set.of());
        Set<String> unknown = new LinkedHashSet<>(tested);
        unknown.removeAll(due);
        Check.same("tests of sentences that are not in the document", unknown, Set.of());
    }

    private static List<String> sentences(String text) {
        List<String> found = new ArrayList<>();
        for (String section : text.split("(?m)^## ")) {
            int end = section.indexOf('\n');
            String title = section.substring(0, end).trim();
            if (title.equals("What it is") || title.equals("Terms") || title.startsWith("Promise ")) {
                String body = section.substring(end).trim().replaceFirst("^`[^`]*`: ", "").replaceAll("\\s+", " ");
                for (String sentence : body.split("(?<=[^. ]\\.) (?=[A-Z])")) {
                    found.add(title + ": " + sentence);
                }
            }
        }
        return found;
    }
}
