import java.io.IOException;
import java.io.UncheckedIOException;
import java.nio.file.Files;
import java.nio.file.Path;

/** Compares answers with those that are due, prints the ones that differ, and ends with exit code 1 if there were any. */
final class Due {
    private static final Path DOCUMENT = Path.of("../shared/DOC.md");
    private static final int PRINTED = 40;
    private final String title;
    private String document = "";
    private String sentence = "";
    private int sentences;
    private int asked;
    private int wrong;

    Due(String title) {
        this.title = title;
    }

    /** The words of ../shared/DOC.md that the next answers are about; they must stand there. */
    void sentence(String words) {
        sentence = " [" + words + "]";
        sentences++;
        yes("the document has these words", document().contains(words));
    }

    /** Two sentences that meet in the next answers. */
    void meeting(String words, String others) {
        sentence(words);
        sentence(others);
        sentence = " [" + words + "] with [" + others + "]";
    }

    private String document() {
        if (document.isEmpty()) {
            try {
                document = Files.readString(DOCUMENT);
            } catch (IOException e) {
                throw new UncheckedIOException(e);
            }
        }
        return document;
    }

    void is(String call, long got, long want) {
        asked++;
        if (got != want) {
            wrong++;
            if (wrong <= PRINTED) {
                System.out.println(title + ": " + call + " answered " + got + ", due is " + want + sentence);
            }
        }
    }

    void text(String call, String got, String want) {
        is(call + " \"" + got + "\" against \"" + want + "\"", got.equals(want) ? 1 : 0, 1);
    }

    void yes(String call, boolean got) {
        is(call, got ? 1 : 0, 1);
    }

    void no(String call, boolean got) {
        is(call, got ? 1 : 0, 0);
    }

    void end() {
        String about = sentences > 0 ? " about " + sentences + " sentences" : "";
        System.out.println(title + ": " + asked + " answers" + about + ", " + wrong + " of them wrong");
        if (wrong != 0) {
            System.exit(1);
        }
    }
}
