import java.io.IOException;
import java.nio.file.Files;
import java.nio.file.Path;
import java.util.ArrayList;
import java.util.LinkedHashMap;
import java.util.List;
import java.util.Map;

/** The sentences of the document, and how many answers were asked for each of them. */
final class Sentences {
    private static final Path DOCUMENT = Path.of("../shared/DOC.md");
    /** Headings of the terms, such as "Rows and columns.", are shorter than every sentence there. */
    private static final int SHORTEST_TERM = 20;

    private final Map<String, Integer> answers = new LinkedHashMap<>();

    Sentences() throws IOException {
        for (String section : Files.readString(DOCUMENT).split("(?m)^## ")) {
            String title = section.substring(0, section.indexOf('\n'));
            String text = section.substring(title.length());
            if (title.equals("What it is") || title.equals("Terms")) {
                addTerms(text);
            } else if (title.startsWith("Promise ")) {
                addPromise(title.substring("Promise ".length(), title.indexOf(':')), text);
            }
        }
    }

    private void addTerms(String text) {
        for (String paragraph : text.split("\n\n")) {
            for (String sentence : split(paragraph)) {
                if (sentence.length() >= SHORTEST_TERM) {
                    answers.put("Terms: " + sentence, 0);
                }
            }
        }
    }

    private void addPromise(String number, String text) {
        for (String part : text.split("\n\n|\n- |\n(?=Throws )")) {
            for (String sentence : split(part)) {
                answers.put("Promise " + number + ": " + withoutFace(sentence), 0);
            }
        }
    }

    private static List<String> split(String paragraph) {
        List<String> sentences = new ArrayList<>();
        for (String sentence : paragraph.strip().replaceAll("^- ", "").split("(?<=\\.)\\s+")) {
            if (!sentence.isBlank()) {
                sentences.add(sentence.replaceAll("\\s+", " "));
            }
        }
        return sentences;
    }

    private static String withoutFace(String sentence) {
        return sentence.replaceAll("^`[^`]*\\)[^`]*`: ", "");
    }

    /** The one sentence that begins like this. */
    String beginning(String words) {
        List<String> found = new ArrayList<>();
        for (String sentence : answers.keySet()) {
            if (sentence.startsWith(words)) {
                found.add(sentence);
            }
        }
        if (found.size() != 1) {
            throw new IllegalArgumentException(words + " begins " + found);
        }
        return found.get(0);
    }

    void count(String sentence) {
        answers.merge(sentence, 1, Integer::sum);
    }

    int size() {
        return answers.size();
    }

    List<String> withoutAnswers() {
        List<String> bare = new ArrayList<>();
        for (Map.Entry<String, Integer> sentence : answers.entrySet()) {
            if (sentence.getValue() == 0) {
                bare.add(sentence.getKey());
            }
        }
        return bare;
    }
}
