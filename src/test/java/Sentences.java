import java.io.IOException;
import java.io.UncheckedIOException;
import java.nio.charset.StandardCharsets;
import java.nio.file.Files;
import java.nio.file.Path;
import java.util.Map;
import java.util.TreeMap;
import java.util.TreeSet;
import java.util.regex.Matcher;
import java.util.regex.Pattern;

/** Tests of single sentences: each quotes what the document says, and the quote must stand in its promise. */
final class Sentences {
    /** What stands ahead of promise 1: what it is, the terms. */
    static final int TERMS = 0;
    private static final Path DOCUMENT = Path.of("../shared/DOC.md");
    private static final int PROMISES = 57;

    private final Map<Integer, String> sections = new TreeMap<>();
    private final Map<Integer, TreeSet<String>> tested = new TreeMap<>();
    private String sentence = "no sentence";
    private int sentenceAnswers = 1;
    private int answers;
    private int wrong;

    Sentences() {
        try {
            split(Files.readString(DOCUMENT, StandardCharsets.UTF_8));
        } catch (IOException e) {
            throw new UncheckedIOException(e);
        }
    }

    private void split(String document) {
        Matcher heading = Pattern.compile("(?m)^## (Promise (\\d+):|Not promised).*$").matcher(document);
        int promise = TERMS;
        int begin = 0;
        while (heading.find()) {
            sections.put(promise, document.substring(begin, heading.start()));
            promise = heading.group(2) == null ? PROMISES + 1 : Integer.parseInt(heading.group(2));
            begin = heading.end();
        }
        sections.put(promise, document.substring(begin));
    }

    /** A new test begins: of this sentence. */
    void says(int promise, String quote) {
        if (sentenceAnswers == 0) {
            complain("nothing was asked about it");
        }
        sentence = (promise == TERMS ? "terms" : "promise " + promise) + ", \"" + quote + "\"";
        sentenceAnswers = 0;
        if (!sections.getOrDefault(promise, "").contains(quote)) {
            complain("the document does not say so");
        }
        tested.computeIfAbsent(promise, p -> new TreeSet<>()).add(quote);
    }

    void due(long got, long want) {
        answers++;
        sentenceAnswers++;
        if (got != want) {
            complain(caller() + ": answered " + got + ", due is " + want);
        }
    }

    private static String caller() {
        return StackWalker.getInstance().walk(frames -> frames
            .filter(f -> !f.getClassName().equals("Sentences") && !f.getClassName().equals("Edges"))
            .map(f -> f.getFileName() + ":" + f.getLineNumber()).findFirst().orElse("?"));
    }

    private void complain(String what) {
        wrong++;
        System.out.println(sentence + ": " + what);
    }

    void end(String name) {
        int count = 0;
        for (int promise = TERMS; promise <= PROMISES; promise++) {
            int here = tested.getOrDefault(promise, new TreeSet<>()).size();
            if (here == 0) {
                sentence = "promise " + promise;
                complain("no sentence of it has a test");
            }
            count += here;
        }
        System.out.println(name + ": " + count + " sentences, " + answers + " answers, " + wrong + " not as due");
        if (wrong != 0) {
            System.exit(1);
        }
    }
}
