import java.io.IOException;
import java.nio.file.Files;
import java.nio.file.Path;
import java.util.ArrayList;
import java.util.HashSet;
import java.util.List;
import java.util.Map;
import java.util.Set;
import java.util.TreeMap;

/** The sentences of the document that ask for something, by their promise; the terms stand under 0. */
final class Document {
    private final Map<Integer, List<String>> sentences = new TreeMap<>();
    private final Map<Integer, Set<String>> quoted = new TreeMap<>();

    Document(Path path) throws IOException {
        String text = Files.readString(path).replace("`", "");
        String[] chapters = text.split("(?m)^## ");
        for (String chapter : chapters) {
            String body = chapter.substring(chapter.indexOf('\n') + 1);
            if (chapter.startsWith("What it is")) {
                readTerms(body.substring(body.indexOf("An object is used")));
            } else if (chapter.startsWith("Terms")) {
                readTerms(body.substring(0, body.indexOf("Examples. Each one")));
            } else if (chapter.startsWith("Promise ")) {
                readPromise(Integer.parseInt(chapter.substring(8, chapter.indexOf(':'))), body);
            }
        }
    }

    private void add(int promise, String sentence) {
        sentences.computeIfAbsent(promise, none -> new ArrayList<>()).add(sentence);
        quoted.computeIfAbsent(promise, none -> new HashSet<>());
    }

    private void readTerms(String body) {
        for (String sentence : body.replaceAll("\\s+", " ").trim().split("(?<=[.;:]) ")) {
            if (sentence.contains(" ")) {
                add(0, sentence);
            }
        }
    }

    private void readPromise(int promise, String body) {
        for (String line : body.split("\n")) {
            boolean isFace = line.matches(".*\\).*: [A-Z].*");
            String sentence = isFace ? line.substring(line.lastIndexOf(": ") + 2) : line.trim();
            // a line of a parameter that tells neither numbers nor kinds nor what has no meaning only names it
            if (!sentence.isEmpty() && !(sentence.startsWith("- ") && !sentence.matches(".*[0-9',].*"))) {
                add(promise, sentence);
            }
        }
    }

    /** Notes that words of the document have checks; false if it has no such words there. */
    boolean quote(int promise, String words) {
        boolean found = false;
        for (String sentence : sentences.getOrDefault(promise, List.of())) {
            if (sentence.contains(words)) {
                quoted.get(promise).add(sentence);
                found = true;
            }
        }
        return found;
    }

    List<String> unquoted() {
        List<String> missing = new ArrayList<>();
        for (int promise : sentences.keySet()) {
            for (String sentence : sentences.get(promise)) {
                if (!quoted.get(promise).contains(sentence)) {
                    missing.add(promise + ": " + sentence);
                }
            }
        }
        return missing;
    }
}
