import java.io.IOException;
import java.nio.file.Files;
import java.nio.file.Path;
import java.util.TreeSet;

/** The document's sentences that a test stands for, each named with its promise, and the answers that break them. */
final class Sentences {
    private static final Path DOCUMENT = Path.of("../shared/DOC.md");

    private final String document = documentText();
    private final TreeSet<Integer> promises = new TreeSet<>();
    private String sentence = "no sentence";
    private int named = 0, answers = 0, answersAhead = 0, wrong = 0;

    /** From here on answers are due by this sentence, which must stand in the document word by word. */
    void says(int promise, String words) {
        endSentence();
        promises.add(promise);
        named++;
        answersAhead = answers;
        sentence = "promise " + promise + ", \"" + words + "\"";
        if (!document.isEmpty() && !document.contains(oneLine(words))) {
            tell("does not stand in the document");
        }
    }

    void due(String call, long got, long want) {
        answers++;
        if (got != want) {
            tell(call + " answered " + got + ", due is " + want);
        }
    }

    void holds(String what, boolean so) {
        answers++;
        if (!so) {
            tell(what + " does not hold");
        }
    }

    /** Ends the test; each of these promises must have been named. */
    void end(int... wanted) {
        endSentence();
        for (int promise : wanted) {
            if (!promises.contains(promise)) {
                sentence = "promise " + promise;
                tell("has no test");
            }
        }
        System.out.println(named + " sentences, " + answers + " answers, " + wrong + " wrong");
        if (wrong != 0) {
            System.exit(1);
        }
    }

    private void endSentence() {
        if (named > 0 && answers == answersAhead) {
            tell("has no answer");
        }
    }

    private void tell(String what) {
        wrong++;
        System.out.println(sentence + ": " + what);
    }

    private static String oneLine(String text) {
        return text.replaceAll("\\s+", " ").trim();
    }

    /** Empty where there is no document: then the names of the sentences can't be looked at, the answers can. */
    private static String documentText() {
        try {
            return oneLine(Files.readString(DOCUMENT));
        } catch (IOException e) {
            System.out.println("no " + DOCUMENT + ": sentences are not looked up");
            return "";
        }
    }
}
