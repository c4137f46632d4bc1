import java.util.ArrayList;
import java.util.List;
import java.util.regex.Matcher;
import java.util.regex.Pattern;

/** A sentence of the document as sentences.txt has it, with its runs and the changes that break it. */
record Sentence(String name, boolean namesBoundary, List<String> runs, List<String> changes) {
    private static final Pattern FOR_EACH = Pattern.compile("#=(\\d+)\\.\\.(\\d+): (.*)");

    static List<Sentence> readAll(List<String> lines) {
        List<Sentence> sentences = new ArrayList<>();
        String section = "";
        for (String line : joined(lines)) {
            String rest = line.substring(2).trim();
            switch (line.substring(0, 2)) {
                case "# " -> { }
                case "##" -> section = rest;
                case "> ", "~ " -> sentences.add(
                        new Sentence(section + ": " + rest, line.charAt(0) == '>', new ArrayList<>(), new ArrayList<>()));
                case "+ " -> sentences.get(sentences.size() - 1).addRuns(rest);
                case "! " -> sentences.get(sentences.size() - 1).changes.add(rest);
                default -> throw new IllegalStateException("can't read: " + line);
            }
        }
        return sentences;
    }

    /** A line that begins with spaces goes on with the one before. */
    private static List<String> joined(List<String> lines) {
        List<String> joined = new ArrayList<>();
        for (String line : lines) {
            if (line.startsWith("  ")) {
                joined.set(joined.size() - 1, joined.get(joined.size() - 1) + " " + line.trim());
            } else if (!line.isBlank() && !line.equals("#")) {
                joined.add(line);
            }
        }
        return joined;
    }

    private void addRuns(String run) {
        Matcher forEach = FOR_EACH.matcher(run);
        if (!forEach.matches()) {
            runs.add(run);
            return;
        }
        for (int i = Integer.parseInt(forEach.group(1)); i <= Integer.parseInt(forEach.group(2)); i++) {
            runs.add(forEach.group(3).replace("#", Integer.toString(i)));
        }
    }
}
