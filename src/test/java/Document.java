import java.io.IOException;
import java.io.UncheckedIOException;
import java.nio.file.Files;
import java.nio.file.Path;
import java.util.ArrayList;
import java.util.List;
import java.util.regex.Matcher;
import java.util.regex.Pattern;

/** The document, promise by promise, and which of its words have been quoted. */
final class Document {
    private static final Path FILE = Path.of("../shared/DOC.md");
    private static final int PROMISES = 30;
    // the terms, and what the document says before them
    private static final int TERMS = 0;
    private static final int HEAD = PROMISES + 1;

    private final String[] texts = new String[PROMISES + 2];
    private final boolean[][] quoted = new boolean[PROMISES + 2][];

    Document() {
        String all = read();
        texts[HEAD] = between(all, "## What it is", "## The public face");
        texts[TERMS] = between(all, "## Terms", "## Promise 1:");
        for (int i = 1; i <= PROMISES; i++) {
            String end = i < PROMISES ? "## Promise " + (i + 1) + ":" : "## Not promised";
            String text = between(all, "## Promise " + i + ":", end);
            // behind the heading and the method's head
            texts[i] = text.substring(text.indexOf("): ") + 3);
        }
        for (int i = 0; i < texts.length; i++) {
            quoted[i] = new boolean[texts[i].length()];
        }
    }

    private static String read() {
        try {
            return Files.readString(FILE);
        } catch (IOException e) {
            throw new UncheckedIOException(e);
        }
    }

    /** The methods of the public face, as "boolean end(int)". */
    static List<String> face() {
        List<String> found = new ArrayList<>();
        String block = between(read(), "## The public face", "## Terms");
        Matcher m = Pattern.compile("public (\\w+ \\w+)\\(([^)]*)\\);").matcher(block);
        while (m.find()) {
            found.add(m.group(1) + "(" + m.group(2).replaceAll(" \\w+(,|$) ?", "$1") + ")");
        }
        return found;
    }

    private static String between(String all, String start, String end) {
        int from = all.indexOf(start);
        int to = all.indexOf(end);
        if (from < 0 || to < from) {
            throw new IllegalStateException("the document has no part from " + start + " to " + end);
        }
        String text = all.substring(from + start.length(), to);
        return text.replace("```text", " ").replace("`", "").replaceAll("==== [0-9]\\.", " ").replaceAll("\\s+", " ");
    }

    /** Notes that the words are quoted; answers what is wrong with the quotation, or nothing. */
    String quote(int promise, String words) {
        for (int part : new int[] {promise, TERMS, HEAD}) {
            int place = texts[part].indexOf(words);
            if (place >= 0) {
                for (int i = place; i < place + words.length(); i++) {
                    quoted[part][i] = true;
                }
                return texts[part].indexOf(words, place + 1) < 0 ? "" : "stands there more than once";
            }
        }
        return "does not stand in the document";
    }

    /** The stretches of words, of what it is, the terms and the promises, that nobody quoted. */
    List<String> untested() {
        List<String> found = new ArrayList<>();
        for (int part = 0; part <= HEAD; part++) {
            StringBuilder words = new StringBuilder();
            for (int i = 0; i <= texts[part].length(); i++) {
                if (i < texts[part].length() && !quoted[part][i]) {
                    words.append(texts[part].charAt(i));
                    continue;
                }
                if (words.toString().matches(".*[A-Za-z0-9].*")) {
                    found.add(nameOf(part) + ": " + words.toString().strip());
                }
                words.setLength(0);
            }
        }
        return found;
    }

    private static String nameOf(int part) {
        if (part == HEAD) {
            return "what it is";
        }
        return part == TERMS ? "terms" : "promise " + part;
    }
}
