import java.io.IOException;
import java.nio.file.Files;
import java.nio.file.Path;
import java.util.Arrays;
import java.util.LinkedHashMap;
import java.util.Map;

/**
 * The words of the document, part by part, so that a test can name the very sentence that it is of
 * and no sentence is left without one. .ci/run says where the document is (-Ddoc=..); without it
 * nothing is looked up.
 */
final class Doc {
    private static final Map<String, String> WORDS = read();
    private static final Map<String, boolean[]> CITED = new LinkedHashMap<>();

    private Doc() {
    }

    static void cite(String part, String words) {
        if (WORDS.isEmpty()) {
            return;
        }
        String all = WORDS.getOrDefault(part, "");
        int at = all.indexOf(words);
        if (at < 0) {
            Check.wrong("the document has no such words");
            return;
        }
        boolean[] cited = CITED.computeIfAbsent(part, key -> new boolean[all.length()]);
        Arrays.fill(cited, at, at + words.length(), true);
    }

    /** Every word of the terms and the promises must have been cited. */
    static void allCited() {
        Check.byNone();
        if (WORDS.isEmpty()) {
            System.out.println("no document is told by -Ddoc: the sentences are not looked up in it");
            return;
        }
        for (Map.Entry<String, String> part : WORDS.entrySet()) {
            boolean[] cited = CITED.getOrDefault(part.getKey(), new boolean[part.getValue().length()]);
            StringBuilder rest = new StringBuilder();
            for (int i = 0; i < cited.length; i++) {
                rest.append(cited[i] ? '\u0001' : part.getValue().charAt(i));
            }
            for (String piece : rest.toString().split("\u0001+")) {
                if (piece.matches(".*[A-Za-z0-9].*")) {
                    Check.wrong(part.getKey() + ": no test is named by \"" + piece + "\"");
                }
            }
        }
        Check.due("parts of the document", WORDS.size(), 23);
    }

    private static Map<String, String> read() {
        Map<String, String> parts = new LinkedHashMap<>();
        String place = System.getProperty("doc", "");
        if (place.isEmpty() || !Files.isReadable(Path.of(place))) {
            return parts;
        }
        String part = "";
        for (String line : linesOf(Path.of(place))) {
            if (line.startsWith("## ")) {
                String head = line.substring(3);
                boolean terms = head.equals("Terms");
                part = terms ? "Terms 1" : head.startsWith("Promise ") ? head.substring(0, head.indexOf(':')) : "";
            } else if (line.startsWith("==== ")) {
                part = "Terms " + line.charAt(5);
                line = line.substring(8);
            } else if (line.startsWith("An object is used")) {
                part = "What it is";
            }
            if (!part.isEmpty() && !line.startsWith("## ") && !line.startsWith("```")) {
                parts.merge(part, withoutFace(line), (one, other) -> (one + " " + other).trim());
            }
        }
        return parts;
    }

    /** The face stands ahead of a promise's words; FaceTest is about it. */
    private static String withoutFace(String line) {
        int end = line.indexOf("`: ");
        return (line.startsWith("`") && end > 0 ? line.substring(end + 3) : line).trim();
    }

    private static Iterable<String> linesOf(Path place) {
        try {
            return Files.readAllLines(place);
        } catch (IOException e) {
            throw new IllegalStateException(e);
        }
    }
}
