import java.io.IOException;
import java.nio.charset.StandardCharsets;
import java.nio.file.Files;
import java.nio.file.Path;
import java.util.Map;
import java.util.TreeMap;
import java.util.regex.Matcher;
import java.util.regex.Pattern;

/** The document's words, so that a test can't quote what does not stand there. */
final class Document {
    private static final Path PLACE = Path.of("../shared/DOC.md");
    private static final Pattern HEAD = Pattern.compile("(?m)^(?:(IV|I{1,3})\\. |## Promise (\\d+): |## (What it is|The public face|Not promised)$)");
    private static final Map<String, String> PARTS = parts();

    private Document() {
    }

    /** Whether a part (a Term "I" to "IV", a promise "1" to "34", a heading) has these words. */
    static boolean says(String part, String words) {
        if (PARTS.isEmpty()) {
            return true;
        }
        String text = PARTS.get(part);
        return text != null && text.contains(plain(words));
    }

    private static Map<String, String> parts() {
        Map<String, String> parts = new TreeMap<>();
        String text = text();
        Matcher head = HEAD.matcher(text);
        String part = null;
        int from = 0;
        while (head.find()) {
            if (part != null) {
                parts.put(part, plain(text.substring(from, head.start())));
            }
            part = head.group(1) != null ? head.group(1) : head.group(2) != null ? head.group(2) : head.group(3);
            from = head.start();
        }
        if (part != null) {
            parts.put(part, plain(text.substring(from)));
        }
        return parts;
    }

    private static String text() {
        try {
            return Files.readString(PLACE, StandardCharsets.UTF_8);
        } catch (IOException e) {
            System.out.println("no document at " + PLACE.toAbsolutePath() + ": quotes are not compared");
            return "";
        }
    }

    private static String plain(String text) {
        return text.replaceAll("\\s+", " ");
    }
}
