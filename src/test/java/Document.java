import java.io.IOException;
import java.nio.file.Files;
import java.nio.file.Path;
import java.util.ArrayList;
import java.util.List;

/** The words of ../shared/DOC.md, by promise, and which of them a test has been told for. */
final class Document {
    /** The parts that are no promise: what it is, the public face, the terms. */
    static final int USE = -2, FACE = -1, TERMS = 0;
    static final int PROMISES = 27;

    private final List<Part> parts = new ArrayList<>();

    private static final class Part {
        final int number;
        final String words;
        final boolean[] isTested;

        Part(int number, String words) {
            this.number = number;
            this.words = words;
            this.isTested = new boolean[words.length()];
        }
    }

    Document(Path path) throws IOException {
        for (String section : Files.readString(path).split("(?m)^## ")) {
            int number = numberOf(section);
            if (number >= USE) {
                parts.add(new Part(number, wordsOf(section)));
            }
        }
    }

    private static int numberOf(String section) {
        if (section.startsWith("What it is")) {
            return USE;
        }
        if (section.startsWith("The public face")) {
            return FACE;
        }
        if (section.startsWith("Terms")) {
            return TERMS;
        }
        boolean isPromise = section.matches("(?s)Promise \\d+:.*");
        return isPromise ? Integer.parseInt(section.substring(8, section.indexOf(':'))) : Integer.MIN_VALUE;
    }

    /** A section without its heading, its signature and the signs around its words. */
    private static String wordsOf(String section) {
        return section.substring(section.indexOf('\n'))
            .replaceAll("(?m)^```.*$", "").replaceAll("(?m)^Ahead of the calls .*$", "")
            .replaceAll("(?m)^`.*?`: ", "").replaceAll("==== \\d ", "")
            .replaceAll("\\s+", " ").trim();
    }

    /** Whether the part has these words; they count as tested from now on. */
    boolean tick(int number, String words) {
        boolean isThere = false;
        for (Part part : parts) {
            int at = part.number == number ? part.words.indexOf(words) : -1;
            if (at >= 0) {
                isThere = true;
                for (int i = 0; i < words.length(); i++) {
                    part.isTested[at + i] = true;
                }
            }
        }
        return isThere;
    }

    /** What the terms and the promises say that no test has been told for. */
    List<String> untested() {
        List<String> result = new ArrayList<>();
        int promises = 0;
        for (Part part : parts) {
            promises += part.number > TERMS ? 1 : 0;
            StringBuilder left = new StringBuilder();
            for (int i = 0; i < part.words.length() && part.number >= TERMS; i++) {
                left.append(part.isTested[i] ? ' ' : part.words.charAt(i));
            }
            String words = left.toString().replaceAll("\\s+", " ").trim();
            if (!words.isEmpty()) {
                result.add(part.number + ": " + words);
            }
        }
        if (promises != PROMISES) {
            result.add("there are " + promises + " promises");
        }
        return result;
    }
}
