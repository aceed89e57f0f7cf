import java.io.IOException;
import java.io.UncheckedIOException;
import java.nio.file.Files;
import java.nio.file.Path;
import java.util.ArrayList;
import java.util.LinkedHashMap;
import java.util.List;
import java.util.Map;

/** The sentences of ../shared/DOC.md, by the headings that they stand under. */
final class Document {
    private static final Path FILE = Path.of("../shared/DOC.md");
    /** Headings, empty lines, fences and the indented lines of a fence each begin something new. */
    private static final String BREAKS = "\n\\s*\n|```(text|java)?|\n(?=#)|(?<=\n)   ";
    /** The two full stops of "0, 1, .." end no sentence. */
    private static final String SENTENCE_ENDS = "(?<=[^.]\\.\\)?) (?=[A-Z0-9(`])";

    private final Map<String, List<String>> sentences = new LinkedHashMap<>();

    Document() {
        String place = "";
        for (String part : text().split(BREAKS)) {
            String plain = part.strip().replaceAll("\\s+", " ");
            if (plain.startsWith("#")) {
                place = plain.replaceFirst("^#+ ", "").replaceFirst(":.*", "");
            } else if (!plain.isEmpty()) {
                addAll(place, plain);
            }
        }
    }

    private static String text() {
        try {
            return Files.readString(FILE);
        } catch (IOException unread) {
            throw new UncheckedIOException(unread);
        }
    }

    private void addAll(String place, String part) {
        String bare = part.replaceFirst("^\\d+\\. ", "").replaceFirst("^`[^`]*`: ", "");
        List<String> here = sentences.computeIfAbsent(place, k -> new ArrayList<>());
        here.addAll(List.of(bare.split(SENTENCE_ENDS)));
    }

    /** The lines of the public face, with single blanks and without what ends them. */
    List<String> face() {
        List<String> lines = new ArrayList<>();
        String all = text();
        int from = all.indexOf("```java");
        for (String line : all.substring(from, all.indexOf("```", from + 3)).split("\n")) {
            if (line.startsWith("    public ")) {
                lines.add(line.strip().replaceFirst(";$", ""));
            }
        }
        return lines;
    }

    List<String> places() {
        return new ArrayList<>(sentences.keySet());
    }

    List<String> sentencesOf(String place) {
        return sentences.getOrDefault(place, List.of());
    }
}
