import java.nio.charset.StandardCharsets;
import java.nio.file.Files;
import java.nio.file.Path;
import java.util.Set;
import java.util.TreeSet;

/**
 * Tests of single sentences of the document. Each is named by its sentence, which must stand in the document
 * word by word: so that a reader finds the test of a sentence, and a sentence that changes is seen.
 */
final class Edge {
    private static final String DOC = read();
    private static final Set<Integer> PROMISES = new TreeSet<>();

    private Edge() {
    }

    private static String read() {
        try {
            return plain(Files.readString(Path.of("../shared/DOC.md"), StandardCharsets.UTF_8));
        } catch (java.io.IOException e) {
            throw new java.io.UncheckedIOException(e);
        }
    }

    private static String plain(String text) {
        return text.replaceAll("\\s+", " ");
    }

    /** A test of a sentence of a promise. */
    static void of(int promise, String sentence, Due.Call test) {
        int from = DOC.indexOf("## Promise " + promise + ":");
        int to = DOC.indexOf("## ", from + 3);
        PROMISES.add(promise);
        go("promise " + promise + ", '" + sentence + "'", DOC.substring(from, to), sentence, test);
    }

    /** A test of a sentence of that part which tells what the words in capitals mean. */
    static void ofTerms(String sentence, Due.Call test) {
        go("terms, '" + sentence + "'", DOC.substring(0, DOC.indexOf("## Promise 1:")), sentence, test);
    }

    private static void go(String about, String part, String sentence, Due.Call test) {
        Due.about(about + ": ");
        Due.is("its sentence stands in the document", true, part.contains(plain(sentence)));
        try {
            test.go();
        } catch (RuntimeException e) {
            Due.is("it threw " + e + " at " + e.getStackTrace()[0] + "; exceptions", 0, 1);
        }
        Due.about("");
    }

    /** Each of these promises must have had a test. */
    static void end(int... promises) {
        for (int promise : promises) {
            Due.is("promise " + promise + " has a test", true, PROMISES.contains(promise));
        }
        Due.end();
    }
}
