import java.io.IOException;
import java.nio.file.Files;
import java.nio.file.Path;
import java.util.ArrayList;
import java.util.List;
import java.util.concurrent.Callable;

/**
 * Holds tests to the document's own words: a test says which words it is for, and in the end every word of the
 * terms and of the promises must have been said by one of them.
 */
final class Sentences {
    static final String NSE = "NoSuchElementException";
    static final String IAE = "IllegalArgumentException";
    /** The part of the document ahead of promise 1. */
    static final int TERMS = 0;
    private static final int PROMISES = 42;
    private static final Path DOCUMENT = Path.of("../shared/DOC.md");

    private final Check check;
    private final List<String> parts = new ArrayList<>();
    private final List<boolean[]> said = new ArrayList<>();
    private String saying = "";

    Sentences(Check check) throws IOException {
        this.check = check;
        if (Files.isReadable(DOCUMENT)) {
            readParts(Files.readString(DOCUMENT));
        } else {
            System.out.println("no " + DOCUMENT + ": nobody looks whether it says so");
        }
    }

    private void readParts(String document) {
        for (int part = TERMS; part <= PROMISES; part++) {
            int from = document.indexOf(part == TERMS ? "## Terms\n" : "## Promise " + part + ":");
            int to = document.indexOf("\n## ", from + 1);
            check.same("part " + part + " of the document", from >= 0 && to > from ? 1 : 0, 1);
            String text = oneBlank(document.substring(from, to));
            // what a call is named and takes is FaceTest's
            parts.add(part == TERMS ? text : text.substring(text.indexOf("`: ") + 3));
            said.add(new boolean[parts.get(part).length()]);
        }
    }

    private static String oneBlank(String text) {
        return text.replace("```text", " ").replace("```", " ").replaceAll("#+ Terms|={4} \\d\\.", " ")
                .replaceAll("\\s+", " ");
    }

    /** The words that the next answers are held against; they must stand in that part. */
    void says(int part, String words) {
        saying = (part == TERMS ? "terms" : "promise " + part) + ", '" + words + "'";
        if (parts.isEmpty()) {
            return;
        }
        String text = parts.get(part);
        int at = text.indexOf(words);
        check.same("the document has " + saying, at >= 0 ? 1 : 0, 1);
        while (at >= 0) {
            for (int i = 0; i < words.length(); i++) {
                said.get(part)[at + i] = true;
            }
            at = text.indexOf(words, at + 1);
        }
    }

    void due(String what, Object got, Object due) {
        check.same(saying + ": " + what, got, due);
    }

    void throwsOne(String exception, String what, Callable<?> call) {
        check.same(saying + ": " + what, Told.outcome(call), exception);
    }

    /** A new object is given the text: the fault, its place. */
    void faulty(String text, int fault, int place) {
        SpareWell well = new SpareWell();
        due("fault of '" + text + "'", Told.tell(well, text), fault);
        due("place in '" + text + "'", well.fault(), place);
    }

    void good(String text) {
        faulty(text, 0, SpareWell.NONE);
    }

    /** Every number beside a range, the nearest and the farthest ones. */
    static int[] beside(int least, int most) {
        return new int[] {least - 1, most + 1, Integer.MIN_VALUE, Integer.MAX_VALUE};
    }

    /** All words must have been said. */
    void allSaid() {
        for (int part = 0; part < parts.size(); part++) {
            StringBuilder rest = new StringBuilder();
            for (int i = 0; i < parts.get(part).length(); i++) {
                rest.append(said.get(part)[i] ? ' ' : parts.get(part).charAt(i));
            }
            String left = rest.toString().replaceAll("[^A-Za-z0-9]+", " ").trim();
            check.same("part " + part + ", words without a test", left, "");
        }
    }
}
