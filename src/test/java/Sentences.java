import java.io.IOException;
import java.io.UncheckedIOException;
import java.nio.file.Files;
import java.nio.file.Path;
import java.util.LinkedHashSet;
import java.util.Map;
import java.util.Set;
import java.util.TreeMap;
import java.util.regex.Matcher;
import java.util.regex.Pattern;

/** The sentences of ../shared/DOC.md, and which of them have a test of their own. */
final class Sentences {
    /** The sections "Terms", as number 0, and "Promise 1" to "Promise 60". */
    private static final Map<Integer, Set<String>> SECTIONS = read();
    private static final Map<Integer, Set<String>> TESTED = new TreeMap<>();

    private Sentences() {
    }

    /** Tests a sentence, which must stand in its section word for word. */
    static void of(int promise, String sentence, Runnable test) {
        Check.about("promise " + promise + ", \"" + sentence + "\": ");
        Check.same("the document's sentence", SECTIONS.get(promise).contains(sentence) ? sentence : "none", sentence);
        int before = Check.count();
        test.run();
        Check.same("a check of it", String.valueOf(Check.count() > before), "true");
        TESTED.computeIfAbsent(promise, number -> new LinkedHashSet<>()).add(sentence);
        Check.about("");
    }

    static void checkAllTested() {
        Check.same("sections of the document", String.valueOf(SECTIONS.size()), "61");
        for (int promise : SECTIONS.keySet()) {
            Set<String> untested = new LinkedHashSet<>(SECTIONS.get(promise));
            untested.removeAll(TESTED.getOrDefault(promise, Set.of()));
            Check.same("sentences of promise " + promise + " without a test", String.join(" | ", untested), "");
        }
    }

    private static Map<Integer, Set<String>> read() {
        Map<Integer, Set<String>> sections = new TreeMap<>();
        Pattern promise = Pattern.compile("Promise (\\d+): .*");
        for (String section : document().split("(?m)^## ")) {
            int end = section.indexOf('\n');
            String title = end < 0 ? section : section.substring(0, end);
            Matcher matcher = promise.matcher(title);
            if (matcher.matches()) {
                sections.put(Integer.valueOf(matcher.group(1)), sentencesOf(section.substring(end)));
            } else if (title.equals("Terms")) {
                sections.put(0, sentencesOf(section.substring(end)));
            }
        }
        return sections;
    }

    private static String document() {
        try {
            return Files.readString(Path.of("../shared/DOC.md"));
        } catch (IOException e) {
            throw new UncheckedIOException(e);
        }
    }

    /** Left out are the head of a method and the word or two with which a paragraph of "Terms" begins. */
    private static Set<String> sentencesOf(String section) {
        Set<String> sentences = new LinkedHashSet<>();
        for (String paragraph : section.strip().split("\n\n+|\n(?=- )")) {
            String text = paragraph.replace('\n', ' ')
                    .replaceFirst("^`[^`]*`: ", "")
                    .replaceFirst("^(A day|[A-Z][a-z]+)\\. ", "");
            for (String sentence : text.split("(?<=\\.) ")) {
                sentences.add(sentence);
            }
        }
        return sentences;
    }
}
