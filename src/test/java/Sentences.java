import java.io.IOException;
import java.nio.file.Files;
import java.nio.file.Path;
import java.util.ArrayList;
import java.util.List;
import java.util.Set;
import java.util.TreeSet;

/**
 * The sentences of the document that the tests of boundary cases name. Each one that is named must stand in
 * the document and be followed by a check, and each one of the document must be named.
 */
final class Sentences {
    static final int TERMS = 0;

    /** Headings, and sentences that only say again, without a boundary, what another one says. */
    private static final Set<String> WITHOUT_BOUNDARY = Set.of(
            "Days.", "Machines and members.", "Inductions.", "Entries.", "Setup.", "Booking.", "Bars.", "Tariffs.",
            "Dues.", "Breakages.", "Exceptions.", "Returns the day.", "Returns whether it is live.",
            "Returns the number of minutes.", "Returns the start.", "Returns the number of entries.",
            "Returns the free length.", "Returns the amount.", "Returns the sum.",
            "Returns whether all of this holds.");

    private static final Set<String> named = new TreeSet<>();
    private static String open = "";
    private static int checkedBefore = 0;

    private Sentences() {
    }

    /** The checks that follow belong to this sentence of this promise, or of the section Terms. */
    static void name(int promise, String sentence) {
        close();
        open = key(promise, sentence);
        if (!named.add(open)) {
            Expect.fail("is tested in two places");
        }
        Expect.about(open);
        checkedBefore = Expect.checked();
    }

    private static void close() {
        if (!open.isEmpty() && Expect.checked() == checkedBefore) {
            Expect.fail("has no check");
        }
        open = "";
        Expect.about("");
    }

    private static String key(int promise, String sentence) {
        return (promise == TERMS ? "Terms" : "Promise " + promise) + ", \"" + sentence + "\"";
    }

    /** After the last sentence: whether these are the document's sentences, all of them. */
    static void compareWith(Path document) throws IOException {
        close();
        Set<String> written = sentencesOf(Files.readString(document));
        Expect.equal("the document has sentences", true, written.size() > 200);
        for (String sentence : written) {
            if (!named.contains(sentence)) {
                Expect.fail(sentence + " has no test");
            }
        }
        for (String sentence : named) {
            if (!written.contains(sentence)) {
                Expect.fail(sentence + " is tested, but does not stand in the document");
            }
        }
        System.out.println("  " + named.size() + " sentences");
    }

    private static Set<String> sentencesOf(String document) {
        Set<String> sentences = new TreeSet<>();
        int promise = -1;
        for (String block : document.split("\n\n")) {
            if (block.startsWith("## ")) {
                promise = block.equals("## Terms") ? TERMS : numberOf(block);
            } else if (promise >= 0) {
                for (String sentence : split(block)) {
                    if (!WITHOUT_BOUNDARY.contains(sentence)) {
                        sentences.add(key(promise, sentence));
                    }
                }
            }
        }
        return sentences;
    }

    private static int numberOf(String heading) {
        return heading.startsWith("## Promise ") ? Integer.parseInt(heading.split("[ :]")[2]) : -1;
    }

    /** A list has a sentence in each line; before the colon of a paragraph stands the signature. */
    private static List<String> split(String block) {
        List<String> sentences = new ArrayList<>();
        if (block.startsWith("- ")) {
            for (String line : block.strip().split("\n")) {
                sentences.add(line.substring(2));
            }
            return sentences;
        }
        String text = block.strip().replace('\n', ' ').replaceFirst("^`[^`]*`: ", "");
        for (String sentence : text.split("(?<=[.;)]) (?=[A-Z(])")) {
            sentences.add(sentence);
        }
        return sentences;
    }
}
