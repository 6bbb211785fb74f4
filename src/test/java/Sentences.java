import java.io.IOException;
import java.nio.charset.StandardCharsets;
import java.nio.file.Files;
import java.nio.file.Path;
import java.util.ArrayList;
import java.util.LinkedHashMap;
import java.util.List;
import java.util.Map;
import java.util.function.Consumer;
import java.util.regex.Matcher;
import java.util.regex.Pattern;

/**
 * The document's sentences, and which of them have a test of their own. A test
 * bears the words that it tests: they must stand in the document, and no
 * sentence of the document may be without a test.
 */
final class Sentences {
    private final Map<String, String> sections = new LinkedHashMap<>();
    private final Map<String, boolean[]> tested = new LinkedHashMap<>();
    private final Due due = new Due();
    private String section = "";
    private String words = "";
    private int asked;

    Sentences(Path document) throws IOException {
        String all = Files.readString(document, StandardCharsets.UTF_8).replace("```text", "").replace("```", "");
        all = all.replaceAll("(?m)^Ahead of the calls.*$", "");
        int terms = all.indexOf("## Terms");
        add("use", all.substring(all.indexOf("An object is used"), all.indexOf("## The public face")));
        String[] parts = all.substring(terms + 8, all.indexOf("## Promise 1:")).split("======== \\d ");
        for (int i = 0; i < parts.length; i++) {
            add("part " + i, parts[i]);
        }
        Matcher promise = Pattern.compile("(?s)## Promise (\\d+): [^\n]*\\s+`[^`]*`: (.*?)(?=\n## )").matcher(all);
        while (promise.find()) {
            add("promise " + promise.group(1), promise.group(2));
        }
    }

    private void add(String name, String text) {
        String plain = text.replaceAll("\\s+", " ").trim();
        sections.put(name, plain);
        tested.put(name, new boolean[plain.length()]);
    }

    void in(String name) {
        section = name;
    }

    /** A test of these words of the section, on a new object. */
    void says(String ofDocument, Consumer<KeptLeaves> test) {
        words = ofDocument;
        String text = sections.getOrDefault(section, "");
        due.holds(section + " says '" + words + "'", text.contains(words));
        for (int at = text.indexOf(words); at >= 0; at = text.indexOf(words, at + 1)) {
            for (int i = at; i < at + words.length(); i++) {
                tested.get(section)[i] = true;
            }
        }
        asked = 0;
        try {
            test.accept(new KeptLeaves());
        } catch (RuntimeException e) {
            due.holds(label("the machine threw " + e), false);
        }
        due.holds(label("something is looked at"), asked > 0);
    }

    private String label(String what) {
        return section + ", '" + words + "': " + what;
    }

    void is(String what, long got, long want) {
        asked++;
        due.is(label(what), got, want);
    }

    void same(String what, String got, String want) {
        asked++;
        due.holds(label(what) + " '" + got + "' is '" + want + "'", got.equals(want));
    }

    void end(String name) {
        due.is("sections", sections.size(), 1 + 6 + 46);
        for (Map.Entry<String, String> one : sections.entrySet()) {
            for (int[] piece : pieces(one.getValue())) {
                boolean found = false;
                for (int i = piece[0]; i < piece[1]; i++) {
                    found |= tested.get(one.getKey())[i];
                }
                due.holds(one.getKey() + " has a test of '" + one.getValue().substring(piece[0], piece[1]) + "'", found);
            }
        }
        due.end(name);
    }

    /** From where to where each sentence goes, or each part of one that ends with a semicolon. */
    private static List<int[]> pieces(String text) {
        List<int[]> found = new ArrayList<>();
        // The dots of '1 .. 9' end no sentence.
        Matcher end = Pattern.compile("(?<! \\.)(?<! )[.;]\\)?(?: |$)").matcher(text);
        int from = 0;
        while (end.find()) {
            found.add(new int[] {from, end.start()});
            from = end.end();
        }
        if (from < text.length()) {
            found.add(new int[] {from, text.length()});
        }
        return found;
    }
}
