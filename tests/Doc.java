import java.io.IOException;
import java.nio.file.Files;
import java.nio.file.Path;
import java.util.LinkedHashMap;
import java.util.Map;

/** The document, by its parts, and which of its words tests have named. */
final class Doc {
    private final Map<String, String> parts = new LinkedHashMap<>();
    private final Map<String, boolean[]> named = new LinkedHashMap<>();

    Doc(Path file) throws IOException {
        for (String part : Files.readString(file).split("(?m)^## ")) {
            int end = part.indexOf('\n');
            String heading = end < 0 ? part : part.substring(0, end);
            String text = end < 0 ? "" : withoutFrame(part.substring(end));
            parts.put(heading.replaceAll(":.*", ""), text);
            named.put(heading.replaceAll(":.*", ""), new boolean[text.length()]);
        }
    }

    /** Without what only frames the sentences: fences, signatures, what stands ahead of groups of calls. */
    private static String withoutFrame(String text) {
        return text.replaceAll("(?m)^```.*$", "")
            .replaceAll("(?m)^Ahead of the calls .*$", "")
            .replaceAll("(?m)^`[^`]*`:", "")
            .replaceAll("(?s)^.*======== 1", "")
            .replaceAll("======== 2", "")
            .replaceAll("\\s+", " ");
    }

    /** Whether the words stand in that part; they are named from now on. */
    boolean name(String part, String words) {
        String text = parts.getOrDefault(part, "");
        int start = text.indexOf(words);
        if (start < 0 || words.isEmpty()) {
            return false;
        }
        while (start >= 0) {
            java.util.Arrays.fill(named.get(part), start, start + words.length(), true);
            start = text.indexOf(words, start + 1);
        }
        return true;
    }

    /** The words of a part that no test has named. */
    String unnamed(String part) {
        StringBuilder rest = new StringBuilder();
        String text = parts.getOrDefault(part, "");
        for (int i = 0; i < text.length(); i++) {
            boolean is = named.get(part)[i];
            rest.append(is ? ' ' : text.charAt(i));
        }
        return rest.toString().replaceAll("(?<![A-Za-z0-9])[^A-Za-z0-9]+|[^A-Za-z0-9]+$", " ").trim();
    }

    /** The parts that promise something. */
    Iterable<String> promising() {
        return parts.keySet().stream()
            .filter(part -> part.startsWith("Promise") || part.equals("Terms") || part.equals("What it is"))
            .toList();
    }
}
