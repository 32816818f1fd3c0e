import java.io.IOException;
import java.nio.file.Files;
import java.nio.file.Path;
import java.util.ArrayList;
import java.util.List;

/** The document's words, promise by promise, and which of them the tests quote. */
final class DocText {
    private static final Path DOC = Path.of("../shared/DOC.md");
    private static final int PROMISES = 52;
    private final List<String> parts = new ArrayList<>();
    private final List<boolean[]> quoted = new ArrayList<>();

    DocText() throws IOException {
        if (!Files.exists(DOC)) {
            System.out.println("there is no " + DOC + " here: what the tests quote was not looked up");
            return;
        }
        String all = Files.readString(DOC);
        String first = between(all, "======== ANSWERS.", "## The public face") + between(all, "## Terms", "## Promise 1:");
        add(first.replaceAll("what later calls answer is free", " ")
            .replaceAll("```text|```|======== \\d", " ")
            .replaceAll("Ahead of the calls [^.]*? the interface says: ---- \\d [a-z, ]*", " "));
        for (int p = 1; p <= PROMISES; p++) {
            String section = between(all, "## Promise " + p + ":", p < PROMISES ? "## Promise " + (p + 1) + ":" : "## Not promised");
            add(section.substring(section.indexOf("`:") + 2));
        }
    }

    private static String between(String all, String from, String to) {
        int start = all.indexOf(from) + from.length();
        return all.substring(start, all.indexOf(to, start));
    }

    private void add(String part) {
        String plain = part.replaceAll("\\s+", " ");
        parts.add(plain);
        quoted.add(new boolean[plain.length()]);
    }

    /** Whether these words stand in that part; then they are quoted. */
    boolean quote(int part, String words) {
        if (parts.isEmpty()) {
            return true;
        }
        String text = parts.get(part);
        int at = text.indexOf(words);
        boolean is = at >= 0;
        while (at >= 0) {
            for (int i = at; i < at + words.length(); i++) {
                quoted.get(part)[i] = true;
            }
            at = text.indexOf(words, at + 1);
        }
        return is;
    }

    /** Words that no test quotes. */
    List<String> notQuoted() {
        List<String> rest = new ArrayList<>();
        for (int part = 0; part < parts.size(); part++) {
            StringBuilder words = new StringBuilder();
            for (int i = 0; i < parts.get(part).length(); i++) {
                words.append(quoted.get(part)[i] ? '\n' : parts.get(part).charAt(i));
            }
            for (String run : words.toString().split("\n+")) {
                if (run.chars().anyMatch(Character::isLetterOrDigit)) {
                    rest.add(part + ": " + run.strip());
                }
            }
        }
        return rest;
    }
}
