import java.io.IOException;
import java.nio.file.Files;
import java.nio.file.Path;
import java.util.ArrayList;
import java.util.List;
import java.util.Map;
import java.util.TreeMap;

/**
 * The sentences of ../shared/DOC.md by their promise, so that a case can name the sentence that it tests and no
 * sentence stays without a case. Section 0 is what stands before the promises.
 */
final class Document {
    private static final Path PLACE = Path.of("..", "shared", "DOC.md");
    /** Sentences that say what the document is, and nothing that a call could break. */
    private static final List<String> NO_PROMISE = List.of("A simulator of causal broadcast",
            "The constructor and the methods follow");

    private final Map<Integer, List<String>> sentences = new TreeMap<>();
    private final Map<Integer, List<String>> quotes = new TreeMap<>();

    private Document() {
    }

    /** The class can be tested without the document, so a machine that lacks it only leaves its sentences unread. */
    static Document read() {
        Document document = new Document();
        try {
            document.take(Files.readString(PLACE));
        } catch (IOException e) {
            System.out.println("the document was not found, so the sentences are not looked up");
        }
        return document;
    }

    private void take(String text) {
        String beforeFace = text.substring(0, text.indexOf("## The public face"));
        String description = text.substring(text.indexOf("## Description"), text.indexOf("## Not promised"));
        takeSection(0, beforeFace);
        String[] sections = description.split("(?m)^## Promise ");
        takeSection(0, sections[0]);
        for (int i = 1; i < sections.length; i++) {
            takeSection(Integer.parseInt(sections[i].substring(0, sections[i].indexOf(':'))),
                    sections[i].substring(sections[i].indexOf('\n')));
        }
    }

    private void takeSection(int promise, String section) {
        List<String> found = sentences.computeIfAbsent(promise, key -> new ArrayList<>());
        for (String block : section.split("\n\\s*\n")) {
            String paragraph = block.strip();
            if (paragraph.startsWith("- ")) {
                takeParameters(found, paragraph);
            } else if (!paragraph.matches("(?s)(#|`|----).*") && !paragraph.isEmpty()) {
                takeParagraph(found, flat(paragraph));
            }
        }
    }

    /** A parameter's line names a boundary only if it has a number in it. */
    private static void takeParameters(List<String> found, String paragraph) {
        for (String line : paragraph.split("\n")) {
            if (line.matches(".*[0-9].*")) {
                found.add(line.substring(line.indexOf(": ") + 2));
            }
        }
    }

    private static void takeParagraph(List<String> found, String paragraph) {
        if (paragraph.startsWith("Throws ")) {
            found.addAll(List.of(paragraph.substring(paragraph.indexOf(" if ") + 4).split(", or ")));
            return;
        }
        String title = "(Processes and views|Messages|Delivery|Arrival|States|Causality|Knowledge|View change|Scripts"
                + "|Exceptions)\\. ";
        for (String sentence : paragraph.replaceFirst("^" + title, "").split("(?<=\\.) (?=[A-Z])")) {
            if (NO_PROMISE.stream().noneMatch(sentence::startsWith)) {
                found.add(sentence);
            }
        }
    }

    private static String flat(String text) {
        return text.replaceAll("\\s+", " ");
    }

    /** Notes that a case stands for a sentence, or for a part of one, which must be in the document. */
    void quote(int promise, String quote) {
        quotes.computeIfAbsent(promise, key -> new ArrayList<>()).add(quote);
        if (!sentences.isEmpty()) {
            boolean found = sentences.getOrDefault(promise, List.of()).stream().anyMatch(s -> s.contains(quote));
            Check.same("promise " + promise + ", the document says \"" + quote + "\",", true, found);
        }
    }

    void checkThatAllAreQuoted() {
        for (int promise : sentences.keySet()) {
            List<String> own = quotes.getOrDefault(promise, List.of());
            for (String sentence : sentences.get(promise)) {
                boolean quoted = isRepetition(sentence) || own.stream().anyMatch(sentence::contains);
                Check.same("promise " + promise + ", \"" + sentence + "\" has a case,", true, quoted);
            }
        }
    }

    /** "Returns the number." and its like say again what the sentence above has said. */
    private static boolean isRepetition(String sentence) {
        return sentence.matches("Returns the [a-z]+\\.");
    }
}
