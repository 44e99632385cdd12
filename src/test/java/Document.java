import java.io.IOException;
import java.nio.file.Files;
import java.nio.file.Path;
import java.util.ArrayList;
import java.util.LinkedHashMap;
import java.util.List;
import java.util.Map;

/** The document's sections, to see that each sentence that is quoted stands there, and each is quoted. */
final class Document {
    private static final Path FILE = Path.of("../shared/DOC.md");
    private static final String TERMS = "Terms";
    private static final List<String> FOR_ALL = List.of("What it is", "The public face", TERMS);

    private final Map<String, String> sections = new LinkedHashMap<>();
    private final Map<String, boolean[]> quoted = new LinkedHashMap<>();

    Document() throws IOException {
        String name = "";
        StringBuilder body = new StringBuilder();
        for (String line : Files.readAllLines(FILE)) {
            if (line.startsWith("## ")) {
                put(name, body);
                name = line.substring(3);
                body = new StringBuilder();
            } else if (!line.startsWith("```")) {
                body.append(line).append(' ');
            }
        }
        put(name, body);
    }

    static boolean isHere() {
        return Files.isReadable(FILE);
    }

    private void put(String name, StringBuilder body) {
        String plain = body.toString().replace("&lt;", "<").replace("&gt;", ">").replace("&amp;", "&");
        String text = plain(plain);
        boolean promise = name.startsWith("Promise ");
        if (promise && text.startsWith("`")) {
            text = text.substring(text.indexOf("`:") + 2).trim();
        }
        String key = promise ? name.substring(0, name.indexOf(':')) : name;
        sections.put(key, text);
        quoted.put(key, new boolean[text.length()]);
    }

    private static String plain(String text) {
        return text.replaceAll("\\s+", " ").trim();
    }

    /** Whether the words stand under the promise's heading, or where all promises lean on them. */
    boolean says(Due.Quote quote) {
        boolean found = mark("Promise " + quote.promise, plain(quote.words));
        for (String section : FOR_ALL) {
            found |= mark(section, plain(quote.words));
        }
        return found;
    }

    private boolean mark(String section, String words) {
        int at = sections.getOrDefault(section, "").indexOf(words);
        for (int i = at; at >= 0 && i < at + words.length(); i++) {
            quoted.get(section)[i] = true;
        }
        return at >= 0;
    }

    /** What no test quotes, of the terms and the promises. */
    List<String> left() {
        List<String> all = new ArrayList<>();
        for (String section : sections.keySet()) {
            if (section.equals(TERMS) || section.startsWith("Promise ")) {
                addLeft(section, all);
            }
        }
        return all;
    }

    private void addLeft(String section, List<String> all) {
        String text = sections.get(section);
        StringBuilder piece = new StringBuilder();
        for (int i = 0; i <= text.length(); i++) {
            boolean open = i < text.length() && !quoted.get(section)[i];
            if (open) {
                piece.append(text.charAt(i));
            } else if (!piece.toString().isBlank()) {
                all.add(section + ": " + piece.toString().trim());
            }
            if (!open) {
                piece.setLength(0);
            }
        }
    }
}
