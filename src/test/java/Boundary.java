import java.io.IOException;
import java.nio.file.Files;
import java.nio.file.Path;
import java.util.regex.Matcher;
import java.util.regex.Pattern;

/**
 * Keeps the tests of the boundary cases to the document: a test says which sentence it is about, the sentence must
 * stand in the document word for word, and at the end no refusal of a promise may be left without a sentence.
 */
final class Boundary {
    private static final Path DOCUMENT = Path.of("../shared/DOC.md");
    private static final Pattern PART_BEGINS = Pattern.compile("(?m)^(## |======== )");
    private static final Pattern REFUSAL = Pattern.compile("\\b(UNKNOWN|OUTSIDE|STATE|FULL|NO|NONE|FAULT)\\b");
    private static final int PROMISES = 21;

    private final Checks checks = new Checks("BoundaryTest");
    private final String document;
    private final boolean[] quoted;
    private String about = "";

    Boundary() throws IOException {
        document = Files.readString(DOCUMENT);
        quoted = new boolean[document.length()];
    }

    /** The checks that follow are about these words in a part: "Terms", "Part 1" to "Part 3", "Promise 1" and so on. */
    void sentence(String part, String words) {
        about = part + ", \"" + words + "\":";
        int from = begin(part);
        int at = from < 0 ? -1 : document.indexOf(words, from);
        boolean stands = at >= 0 && at + words.length() <= end(from);
        checks.holds(about + " stands in the document", stands);
        for (int i = at; stands && i < at + words.length(); i++) {
            quoted[i] = true;
        }
    }

    private int begin(String part) {
        if (part.startsWith("Part ")) {
            return document.indexOf("\n======== " + part.substring(5) + " ") + 1;
        }
        int plain = document.indexOf("\n## " + part + "\n");
        return 1 + (plain >= 0 ? plain : document.indexOf("\n## " + part + ":"));
    }

    private int end(int from) {
        Matcher next = PART_BEGINS.matcher(document);
        return next.find(from + 1) ? next.start() : document.length();
    }

    void due(String call, long got, long want) {
        checks.due(about + " " + call, got, want);
    }

    void same(String what, String got, String want) {
        checks.holds(about + " " + what + ": " + got + " is as " + want, got.equals(want));
    }

    void close() {
        for (int promise = 1; promise <= PROMISES; promise++) {
            everyRefusalIsSpokenOf(promise);
        }
        checks.close();
    }

    private void everyRefusalIsSpokenOf(int promise) {
        int from = begin("Promise " + promise);
        int end = end(from);
        boolean any = false;
        for (int i = from; i < end; i++) {
            any |= quoted[i];
        }
        checks.holds("a sentence of Promise " + promise + " has a test", any);
        Matcher refusal = REFUSAL.matcher(document).region(from, end);
        while (refusal.find()) {
            checks.holds(refusal.group() + " of Promise " + promise + ", as told at sign " + refusal.start()
                + " of the document, has a test", quoted[refusal.start()]);
        }
    }
}
