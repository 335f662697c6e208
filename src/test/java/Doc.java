import java.io.IOException;
import java.nio.file.Files;
import java.nio.file.Path;
import java.util.LinkedHashMap;
import java.util.Map;
import java.util.regex.Matcher;
import java.util.regex.Pattern;

/**
 * The document's own words. A case quotes those that it tests; words that the document does not say are a fault of the
 * case, and words of the promises and the terms that no case quotes are one of the tests.
 */
final class Doc {
    private static final Map<String, String> TEXTS = new LinkedHashMap<>();
    private static final Map<String, boolean[]> QUOTED = new LinkedHashMap<>();

    private Doc() {
    }

    static void read() throws IOException {
        Path place = Path.of("../shared/DOC.md");
        if (!Files.exists(place)) {
            System.out.println("the document is not here: quotes are not held against it");
            return;
        }
        String text = Files.readString(place);
        for (String part : text.split("\n## ")) {
            String title = part.substring(0, part.indexOf('\n') < 0 ? part.length() : part.indexOf('\n'));
            Matcher promise = Pattern.compile("Promise (\\d+): .*").matcher(title);
            String words = part.substring(title.length()).replaceAll("```\\w*", " ").replaceAll("\\s+", " ").trim();
            if (promise.matches()) {
                put("promise " + promise.group(1), words.substring(words.indexOf("`: ") + 3));
            } else if (title.equals("Terms") || title.equals("What it is")) {
                put(title, words);
            }
        }
    }

    private static void put(String section, String words) {
        TEXTS.put(section, words);
        QUOTED.put(section, new boolean[words.length()]);
    }

    /** The case that begins here tests these words of a promise. */
    static void promise(int number, String words) {
        quote("promise " + number, words);
    }

    /** The case that begins here tests these words of the terms. */
    static void terms(String words) {
        quote("Terms", words);
    }

    static void quote(String section, String words) {
        Check.about(section + " \"" + words + "\"");
        if (TEXTS.isEmpty()) {
            return;
        }
        String text = TEXTS.getOrDefault(section, "");
        int at = text.indexOf(words);
        Check.due("the document says so", at >= 0);
        while (at >= 0) {
            for (int k = 0; k < words.length(); k++) {
                QUOTED.get(section)[at + k] = true;
            }
            at = text.indexOf(words, at + 1);
        }
    }

    /** Every word of the promises and the terms has been quoted by a case. */
    static void allIsQuoted() {
        Check.about("the document");
        if (TEXTS.isEmpty()) {
            return;
        }
        Check.due("promises read", TEXTS.size(), 37 + 2);
        for (Map.Entry<String, String> section : TEXTS.entrySet()) {
            StringBuilder left = new StringBuilder();
            for (int k = 0; k < section.getValue().length(); k++) {
                char c = section.getValue().charAt(k);
                left.append(QUOTED.get(section.getKey())[k] || !Character.isLetterOrDigit(c) ? ' ' : c);
            }
            String words = left.toString().replaceAll("\\s+", " ").trim();
            Check.due(section.getKey() + " has untested words: " + words, words.isEmpty() || section.getKey().equals("What it is"));
        }
    }
}
