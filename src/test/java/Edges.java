import java.io.IOException;
import java.nio.file.Files;
import java.nio.file.Path;
import java.util.ArrayList;
import java.util.List;
import java.util.Map;
import java.util.TreeMap;
import java.util.regex.Matcher;
import java.util.regex.Pattern;

/**
 * The tests of the document's sentences. Each names its promise, quotes its sentence (of the promise itself, or of
 * what the document says ahead of them all) and plays scripts, each on a new object.
 */
final class Edges {
    /** Where the document says a word, a test must quote it; but for the words that promise nothing. */
    private static final Pattern WORD = Pattern.compile("\\w+");
    private static final String FREE = "what later calls answer is free.";
    private static final Path DOCUMENT = Path.of("..", "shared", "DOC.md");
    private static final int PROMISES = 46;

    private final Due due = new Due("EdgeTest");
    private final Map<Integer, List<String>> quotes = new TreeMap<>();
    private int tests;

    void edge(int promise, String sentence, String... scripts) {
        tests++;
        quotes.computeIfAbsent(promise, p -> new ArrayList<>()).add(sentence);
        due.promise(promise, "(" + sentence + ")");
        due.due("how many scripts", scripts.length > 0 ? 1 : 0, 1);
        for (String script : scripts) {
            play(Step.script(script));
        }
    }

    private void play(List<Step> steps) {
        Play play = new Play();
        for (int i = 0; i < steps.size(); i++) {
            Step step = steps.get(i);
            try {
                due.due(step.words(), play.step(step), step.want());
                if (step.keeps()) {
                    String with = Play.of(steps.subList(0, i + 1)).all();
                    String without = Play.of(steps.subList(0, i)).all();
                    due.due(step.words() + " (does it change nothing?)", with.equals(without) ? 1 : 0, 1);
                }
            } catch (Play.Thrown e) {
                due.fault(step.words() + ": " + e.getMessage());
                return;
            }
        }
    }

    /** Every quote stands in the document, and the document says no word that isn't quoted. */
    void document() throws IOException {
        Map<Integer, String> parts = parts(Files.readString(DOCUMENT));
        Map<Integer, boolean[]> quoted = new TreeMap<>();
        parts.forEach((promise, words) -> quoted.put(promise, new boolean[words.length()]));
        due.promise(0, "(the document)");
        due.due("the document frees later calls", mark(FREE, parts.get(0), quoted.get(0)) ? 1 : 0, 1);
        due.due("promises in the document", parts.size() - 1, PROMISES);
        quotes.forEach((promise, sentences) -> {
            for (String sentence : sentences) {
                boolean own = mark(sentence, parts.getOrDefault(promise, ""), quoted.get(promise));
                boolean ahead = mark(sentence, parts.get(0), quoted.get(0));
                due.due("quote of promise " + promise + " stands in the document: " + sentence, own || ahead ? 1 : 0, 1);
            }
        });
        parts.forEach((promise, words) -> {
            Matcher m = WORD.matcher(words);
            while (m.find()) {
                if (!quoted.get(promise)[m.start()]) {
                    due.fault("promise " + promise + ": no test quotes \"" + m.group() + "\" in: "
                        + words.substring(Math.max(0, m.start() - 30), Math.min(words.length(), m.end() + 30)));
                }
            }
        });
        for (int promise = 1; promise <= PROMISES; promise++) {
            due.due("promise " + promise + " has a test", quotes.containsKey(promise) ? 1 : 0, 1);
        }
        System.out.println("EdgeTest: " + tests + " sentences");
    }

    private static boolean mark(String sentence, String words, boolean[] quoted) {
        boolean stands = false;
        for (int at = words.indexOf(sentence); at >= 0; at = words.indexOf(sentence, at + 1)) {
            stands = true;
            java.util.Arrays.fill(quoted, at, at + sentence.length(), true);
        }
        return stands;
    }

    /** What each promise says behind its call, by its number; 0: what is said ahead of them. White space is one blank. */
    private static Map<Integer, String> parts(String document) {
        Map<Integer, String> parts = new TreeMap<>(Map.of(0, ""));
        for (String part : document.split("(?m)^## ")) {
            String words = part.substring(part.indexOf('\n') + 1).replaceAll("```\\w*|=====+ \\d", " ").replaceAll("\\s+", " ").strip();
            Matcher m = Pattern.compile("Promise (\\d+)").matcher(part);
            if (part.startsWith("What it is")) {
                // the poem ahead of it promises nothing
                parts.merge(0, words.substring(Math.max(0, words.indexOf("An object is used"))), String::concat);
            } else if (part.startsWith("Terms")) {
                parts.merge(0, " " + words, String::concat);
            } else if (m.lookingAt()) {
                parts.put(Integer.parseInt(m.group(1)), words.replaceFirst("^`[^`]*`: ", ""));
            }
        }
        return parts;
    }

    void close() {
        due.close();
    }
}
