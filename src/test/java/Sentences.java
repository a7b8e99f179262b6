import java.io.IOException;
import java.nio.file.Files;
import java.nio.file.Path;
import java.util.Set;
import java.util.TreeSet;

/**
 * Tests that stand for sentences of the document, one each. The words are looked up in the document, in the
 * promise that is told (0: ahead of promise 1), so that no test stands for what the document doesn't say.
 */
final class Sentences {
    private static final Path DOCUMENT = Path.of("../shared/DOC.md");

    final Due due = new Due();
    private final String document = read();
    private final Set<Integer> promises = new TreeSet<>();
    private int many = 0;

    private static String read() {
        try {
            return Files.exists(DOCUMENT) ? Files.readString(DOCUMENT) : "";
        } catch (IOException e) {
            throw new IllegalStateException(e);
        }
    }

    void that(int promise, String words, Runnable test) {
        many++;
        promises.add(promise);
        if (!document.isEmpty()) {
            due.is("promise " + promise + " has the words: " + words, part(promise).contains(words) ? 1 : 0, 1);
        }
        int wrong = due.wrong();
        test.run();
        if (due.wrong() != wrong) {
            System.out.println("  that was, of promise " + promise + ": " + words);
        }
    }

    private String part(int promise) {
        int from = promise == 0 ? 0 : document.indexOf("## Promise " + promise + ":");
        int to = document.indexOf("\n## ", document.indexOf("## Promise " + Math.max(1, promise) + ":") + 1);
        int end = promise == 0 ? document.indexOf("## Promise 1:") : to;
        return from < 0 || end < from ? "" : document.substring(from, end);
    }

    /** Every promise of these has a sentence here. */
    void end(String name, int from, int to) {
        for (int promise = from; promise <= to; promise++) {
            due.is("a test for promise " + promise, promises.contains(promise) ? 1 : 0, 1);
        }
        due.end(name + ": " + many + " sentences");
    }
}
