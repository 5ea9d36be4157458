import java.io.IOException;
import java.nio.file.Files;
import java.nio.file.Path;
import java.util.ArrayList;
import java.util.List;

/** A part of the document, and which of its words a test has said, so that no sentence stays without one. */
final class Quotes {
    private static final Path DOCUMENT = Path.of("../shared/DOC.md");
    final String title;
    private final String text;
    private final boolean[] isSaid;

    Quotes(String title, String from, String behind) {
        this.title = title;
        text = plain(cut(document(), from, behind));
        isSaid = new boolean[text.length()];
    }

    /** Without the document there is nothing to compare with: then all words count as its own. */
    private static String document() {
        try {
            return Files.isReadable(DOCUMENT) ? Files.readString(DOCUMENT) : "";
        } catch (IOException e) {
            return "";
        }
    }

    private static String cut(String all, String from, String behind) {
        int first = all.indexOf(from);
        if (first < 0) {
            return "";
        }
        int last = all.indexOf(behind, first + from.length());
        return last < 0 ? all.substring(first) : all.substring(first, last);
    }

    /** A heading and the line's face say nothing that could be broken: FaceTest has the face. */
    private static String plain(String part) {
        return part.replaceAll("(?m)^#.*$", "").replaceAll("(?m)^```.*$", "")
            .replaceAll("(?m)^`[^`=]*`: ", "").replaceAll("\\s+", " ").trim();
    }

    /** Marks these words, where they are not said yet if there is such a place; whether they stand there at all. */
    boolean say(String words) {
        int place = text.indexOf(words);
        for (int next = place; next >= 0; next = text.indexOf(words, next + 1)) {
            if (!isSaid[next]) {
                place = next;
                break;
            }
        }
        for (int i = 0; i < words.length() && place >= 0; i++) {
            isSaid[place + i] = true;
        }
        return place >= 0 || text.isEmpty();
    }

    List<String> unsaid() {
        List<String> parts = new ArrayList<>();
        StringBuilder open = new StringBuilder();
        for (int i = 0; i <= text.length(); i++) {
            if (i < text.length() && !isSaid[i]) {
                open.append(text.charAt(i));
            } else {
                if (open.toString().matches(".*[A-Za-z0-9].*")) {
                    parts.add(open.toString());
                }
                open.setLength(0);
            }
        }
        return parts;
    }
}
