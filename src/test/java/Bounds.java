import java.io.IOException;
import java.nio.file.Files;
import java.nio.file.Path;
import java.util.TreeSet;

/** Sentences of the document that name a bound; each must be asked inside of it and beyond it. */
final class Bounds {
    private static final Path DOCUMENT = Path.of("../shared/DOC.md");
    private static final int PROMISES = 33;
    private static final int PARTS = 4;

    private final Check check = new Check();
    private final String document;
    private final TreeSet<String> named = new TreeSet<>();
    private String sentence = "";
    private final TreeSet<String> sentences = new TreeSet<>();
    private int inside;
    private int beyond;

    Bounds() throws IOException {
        // Without the document its words can't be compared, but its bounds can be asked.
        document = Files.isReadable(DOCUMENT) ? plain(Files.readString(DOCUMENT)) : null;
    }

    private static String plain(String text) {
        return text.replaceAll("\\s+", " ");
    }

    /** Begins a sentence of a promise; the sentence ahead of it is over. */
    void promise(int number, String words) {
        begin("Promise " + number, words);
    }

    /** Begins a sentence of a part of the terms; part 0 is ahead of part 1. */
    void terms(int part, String words) {
        begin("Terms " + part, words);
    }

    private void begin(String where, String words) {
        close();
        sentence = where + " \"" + words + "\"";
        sentences.add(sentence);
        named.add(where);
        if (document != null) {
            check.due(sentence + " stands in the document", document.contains(plain(words)), true);
        }
    }

    private void close() {
        if (!sentence.isEmpty()) {
            check.due(sentence + " is asked inside of the bound", inside > 0, true);
            check.due(sentence + " is asked beyond it", beyond > 0, true);
        }
        inside = 0;
        beyond = 0;
    }

    void inside(String call, long got, long due) {
        inside++;
        check.due(sentence + ", inside: " + call, got, due);
    }

    void inside(String call, boolean got) {
        inside(call, got ? 1 : 0, 1);
    }

    void beyond(String call, long got, long due) {
        beyond++;
        check.due(sentence + ", beyond: " + call, got, due);
    }

    /** What is refused by false. */
    void beyond(String call, boolean got) {
        beyond(call, got ? 1 : 0, 0);
    }

    /** Inside or beyond, by whether it is told as so. */
    void side(boolean isInside, String call, long got, long due) {
        if (isInside) {
            inside(call, got, due);
        } else {
            beyond(call, got, due);
        }
    }

    /** A text that is told in so many lines. */
    void told(StormSeeds x, int k, String text, int lines) {
        Check.put(x, text);
        inside("text(" + k + ") of \"" + text + "\"", x.text(k), lines);
        inside("fault(0) of it", x.fault(0), 0);
        inside("fault(1) of it", x.fault(1), StormSeeds.NONE);
    }

    /** A text that is refused. */
    void refused(StormSeeds x, int k, String text, int fault, int place) {
        Check.put(x, text);
        beyond("text(" + k + ") of \"" + text + "\"", x.text(k), StormSeeds.NONE);
        beyond("fault(0) of \"" + text + "\"", x.fault(0), fault);
        beyond("fault(1) of \"" + text + "\"", x.fault(1), place);
    }

    /** What must stand ahead of a sentence's own calls. */
    void given(String call, long got, long due) {
        check.due("given for " + sentence + ": " + call, got, due);
    }

    void given(StormSeeds x, int k, String text, int lines) {
        Check.put(x, text);
        given("text(" + k + ") of \"" + text + "\"", x.text(k), lines);
    }

    void end() {
        close();
        for (int i = 1; i <= PROMISES; i++) {
            check.due("Promise " + i + " is named", named.contains("Promise " + i), true);
        }
        for (int i = 0; i <= PARTS; i++) {
            check.due("Terms " + i + " are named", named.contains("Terms " + i), true);
        }
        System.out.println(sentences.size() + " sentences that name a bound");
        check.end();
    }
}
