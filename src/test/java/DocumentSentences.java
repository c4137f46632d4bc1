import java.util.ArrayList;
import java.util.List;

/** The sentences of the document from its first line to its last, without the face and the examples. */
final class DocumentSentences {
    private final List<String> sentences = new ArrayList<>();
    private final StringBuilder paragraph = new StringBuilder();
    private String section = "";

    private DocumentSentences() {
    }

    static List<String> of(String document) {
        DocumentSentences reader = new DocumentSentences();
        document.replaceAll("(?s)```java.*?```", "").lines().forEach(reader::readLine);
        reader.endParagraph();
        return reader.sentences;
    }

    private void readLine(String line) {
        boolean goesOn = !line.isBlank() && !line.matches("(#+ |- |`|---- |    |Examples:|\\d\\. ).*");
        if (!goesOn) {
            endParagraph();
        }
        if (line.startsWith("## ")) {
            section = line.substring(3).replaceFirst(":.*", "");
        } else if (!line.matches("(# |`|---- |Examples:|\\d\\. ).*")) {
            paragraph.append(' ').append(line.trim());
        }
        if (line.startsWith("    ")) {
            endParagraph();
        }
    }

    private void endParagraph() {
        for (String sentence : paragraph.toString().trim().split("(?<=\\.|\\.\\))\\s+(?=[A-Z(])")) {
            if (!sentence.isBlank()) {
                sentences.add(section + ": " + sentence.replaceAll("\\s+", " "));
            }
        }
        paragraph.setLength(0);
    }
}
