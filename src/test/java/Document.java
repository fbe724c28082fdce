import java.io.IOException;
import java.nio.charset.StandardCharsets;
import java.nio.file.Files;
import java.nio.file.Path;
import java.util.ArrayList;
import java.util.BitSet;
import java.util.LinkedHashMap;
import java.util.List;
import java.util.Map;

/** The document by its sections, and which of its words a test has named. */
final class Document {
    private static final Path DOC = Path.of("../shared/DOC.md");

    private final Map<String, String> texts = new LinkedHashMap<>();
    private final Map<String, BitSet> named = new LinkedHashMap<>();

    Document() {
        try {
            String all = Files.readString(DOC, StandardCharsets.UTF_8);
            for (String section : all.split("\n## ")) {
                int end = section.indexOf('\n');
                if (end >= 0) {
                    keep(section.substring(0, end), section.substring(end));
                }
            }
        } catch (IOException e) {
            throw new IllegalStateException("the document is not there: " + DOC, e);
        }
    }

    private void keep(String title, String body) {
        String name = title.startsWith("Promise ") ? title.substring(0, title.indexOf(':')) : title;
        String text = body.replaceAll("Ahead of the calls .* the interface says: ---- (rows|towns, days|asked)\\.", "")
                .replaceAll("Ahead of the calls .* the interface says: ---- foretold: ", "")
                .replaceAll("```(text)?", "").replaceAll("={8} \\d ", "").replaceAll("\\s+", " ").trim();
        texts.put(name, name.equals(title) ? text : text.replaceFirst("^`[^`]*`: ", ""));
        named.put(name, new BitSet());
    }

    /** If the words stand in that section once; they are named from then on. */
    boolean name(String section, String words) {
        String text = texts.getOrDefault(section, "");
        int at = text.indexOf(words);
        if (at < 0 || at != text.lastIndexOf(words)) {
            return false;
        }
        named.get(section).set(at, at + words.length());
        return true;
    }

    /** The parts of the terms and promises in which no test has named a letter or a figure. */
    List<String> unnamed() {
        List<String> all = new ArrayList<>();
        for (String section : texts.keySet()) {
            if (section.equals("Terms") || section.startsWith("Promise ")) {
                unnamed(section, all);
            }
        }
        return all;
    }

    private void unnamed(String section, List<String> all) {
        String text = texts.get(section);
        BitSet done = named.get(section);
        for (int from = done.nextClearBit(0); from < text.length();) {
            int end = done.nextSetBit(from);
            String rest = text.substring(from, end < 0 ? text.length() : end);
            if (rest.matches(".*[A-Za-z0-9].*")) {
                all.add(section + ": " + rest.trim());
            }
            from = end < 0 ? text.length() : done.nextClearBit(end);
        }
    }
}
