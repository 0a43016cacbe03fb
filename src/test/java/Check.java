import java.io.IOException;
import java.io.UncheckedIOException;
import java.nio.file.Files;
import java.nio.file.Path;
import java.util.Set;
import java.util.TreeSet;

/** Counts wrong answers and prints them; a test ends with end(). */
final class Check {
    private final String name;
    private final Set<Integer> promises = new TreeSet<>();
    private String document;
    private String sentence = "";
    private int askedBefore;
    private int asked;
    private int wrong;

    Check(String name) {
        this.name = name;
    }

    /** What is asked from here on is asked for this promise and these words, which the document has. */
    void sentence(int promise, String words) {
        closeSentence();
        sentence = "promise " + promise + " (" + words + "): ";
        promises.add(promise);
        if (!document().contains(words)) {
            wrong("the document does not say so");
        }
        askedBefore = asked;
    }

    void due(String call, long got, long want) {
        asked++;
        if (got != want) {
            wrong(call + " answered " + got + ", due is " + want);
        }
    }

    void holds(String what, boolean truth) {
        asked++;
        if (!truth) {
            wrong("it does not hold that " + what);
        }
    }

    /** A refused call, or one that only asks, leaves all as it was. */
    void same(String call, String before, FewWays x) {
        String now = Make.state(x);
        asked++;
        if (!before.equals(now)) {
            wrong(call + " changed " + before + " to " + now);
        }
    }

    /** No test passes that asked nothing, be it for a single sentence or for one of these promises. */
    void end(int... due) {
        closeSentence();
        sentence = "";
        for (int promise : due) {
            if (!promises.contains(promise)) {
                wrong("nothing was asked for promise " + promise);
            }
        }
        System.out.println(name + ": " + asked + " asked, " + wrong + " wrong");
        if (wrong != 0 || asked == 0) {
            System.exit(1);
        }
    }

    private void closeSentence() {
        if (!sentence.isEmpty() && asked == askedBefore) {
            wrong("nothing was asked");
        }
    }

    private void wrong(String what) {
        wrong++;
        System.out.println(name + ": " + sentence + what);
    }

    private String document() {
        if (document == null) {
            try {
                document = Files.readString(Path.of("../shared/DOC.md")).replaceAll("\\s+", " ");
            } catch (IOException unread) {
                throw new UncheckedIOException(unread);
            }
        }
        return document;
    }
}
