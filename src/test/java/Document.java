import java.io.IOException;
import java.nio.file.Files;
import java.nio.file.Path;
import java.util.ArrayList;
import java.util.LinkedHashMap;
import java.util.List;
import java.util.Map;
import java.util.regex.Matcher;
import java.util.regex.Pattern;

/** The document's chapters, and which of their words have been quoted, so that no sentence stays without a test. */
final class Document {
    private final Map<String, String> chapters = new LinkedHashMap<>();
    private final Map<String, boolean[]> quoted = new LinkedHashMap<>();
    private int wrong;

    Document(String path) throws IOException {
        String text = Files.readString(Path.of(path)).replaceAll("(?m)^```.*$", "").replaceAll("==== \\d+\\.", "");
        Matcher m = Pattern.compile("(?m)^## (Terms|Promise \\d+)(: .*)?$").matcher(text);
        while (m.find()) {
            int end = text.indexOf("\n## ", m.end());
            String body = oneLine(text.substring(m.end(), end < 0 ? text.length() : end));
            String name = m.group(1).replace("Promise ", "");
            chapters.put(name, body.replaceFirst("^`[^`]*`: ", ""));
            quoted.put(name, new boolean[chapters.get(name).length()]);
        }
    }

    int wrong() {
        return wrong;
    }

    private static String oneLine(String text) {
        return text.replaceAll("\\s+", " ").trim();
    }

    void quote(String chapter, String words) {
        String text = chapters.getOrDefault(chapter, "");
        int at = text.indexOf(words);
        if (at < 0) {
            wrong++;
            System.out.println(chapter + " does not say: " + words);
        }
        for (; at >= 0; at = text.indexOf(words, at + 1)) {
            for (int i = at; i < at + words.length(); i++) {
                quoted.get(chapter)[i] = true;
            }
        }
    }

    /** The stretches with a letter or a digit that nobody has quoted. */
    List<String> unquoted() {
        List<String> found = new ArrayList<>();
        for (Map.Entry<String, String> chapter : chapters.entrySet()) {
            StringBuilder stretch = new StringBuilder();
            String text = chapter.getValue() + " ";
            for (int i = 0; i < text.length(); i++) {
                if (i < text.length() - 1 && !quoted.get(chapter.getKey())[i]) {
                    stretch.append(text.charAt(i));
                } else {
                    if (stretch.chars().anyMatch(Character::isLetterOrDigit)) {
                        found.add(chapter.getKey() + ": " + stretch.toString().trim());
                    }
                    stretch.setLength(0);
                }
            }
        }
        return found;
    }

    int chapters() {
        return chapters.size();
    }
}
