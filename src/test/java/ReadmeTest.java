import java.io.IOException;
import java.lang.reflect.Method;
import java.lang.reflect.Modifier;
import java.net.URL;
import java.net.URLClassLoader;
import java.nio.file.Files;
import java.nio.file.Path;
import java.util.Comparator;
import java.util.Map;
import java.util.Set;
import java.util.TreeMap;
import java.util.TreeSet;
import java.util.regex.Matcher;
import java.util.regex.Pattern;
import java.util.stream.Stream;

/** The page README.md: its examples answer as it says, and its table of refusals names what the document's promises name. */
public final class ReadmeTest {
    private static final Due DUE = new Due("ReadmeTest");
    private static final Path DOCUMENT = Path.of("..", "shared", "DOC.md");
    /** "tree.next();   // -3: none falls": a call, and what it answers. */
    private static final Pattern CALL = Pattern.compile("(?m)^(.*\\));[ ]*// (-?\\d+)(?:: .*)?$");
    private static final Pattern BLOCK = Pattern.compile("(?s)```java\\n(.*?)```");
    private static final Pattern ROW = Pattern.compile("(?m)^\\| (?:`(\\w+)`, )?(-\\d+)( and below)? \\| [^|]* \\| ([^|]*) \\|$");
    private static final String ALL_BUT = "all that take a number, but ";

    public static void main(String[] args) throws Exception {
        String page = Files.readString(Path.of("README.md"));
        DUE.promise(0, "(README.md)");
        examples(page);
        refusals(page, Files.readString(DOCUMENT));
        DUE.close();
    }

    /** All blocks as one class: those that begin with "static" are its methods, each of the others is a run of its own. */
    private static void examples(String page) throws Exception {
        StringBuilder methods = new StringBuilder();
        StringBuilder runs = new StringBuilder();
        int calls = 0;
        Matcher block = BLOCK.matcher(page);
        while (block.find()) {
            String code = block.group(1);
            if (code.startsWith("static ")) {
                methods.append(code);
                continue;
            }
            Matcher call = CALL.matcher(code);
            StringBuilder run = new StringBuilder();
            while (call.find()) {
                calls++;
                String words = call.group(1).replace("\\", "\\\\").replace("\"", "\\\"");
                call.appendReplacement(run, Matcher.quoteReplacement(
                    "ReadmeTest.answered(\"" + words + "\", " + call.group(1) + ", " + call.group(2) + "L);"));
            }
            runs.append("{\n").append(call.appendTail(run)).append("}\n");
            DUE.due("calls without an answer in: " + code, count(run.toString(), "(?m)^(?:tree\\.|tell\\()"), 0);
        }
        DUE.due("the page has examples", calls > 0 ? 1 : 0, 1);
        play("final class Examples {\n" + methods + "public static void play() {\n" + runs + "}\n}\n");
    }

    /** What an example's call answered; the examples have a loader of their own, which sees only what is public. */
    public static void answered(String call, long got, long want) {
        DUE.due(call, got, want);
    }

    private static int count(String words, String pattern) {
        Matcher m = Pattern.compile(pattern).matcher(words);
        int count = 0;
        while (m.find()) {
            count++;
        }
        return count;
    }

    private static void play(String code) throws Exception {
        Path out = Files.createTempDirectory("readme");
        try {
            Path source = Files.writeString(out.resolve("Examples.java"), code);
            int rc = new ProcessBuilder("javac", "-cp", System.getProperty("java.class.path"), "-d", out.toString(), source.toString())
                .inheritIO().start().waitFor();
            DUE.due("the examples compile (0)", rc, 0);
            if (rc == 0) {
                try (URLClassLoader loader = new URLClassLoader(new URL[] {out.toUri().toURL()}, ReadmeTest.class.getClassLoader())) {
                    Method run = loader.loadClass("Examples").getDeclaredMethod("play");
                    run.setAccessible(true);
                    run.invoke(null);
                }
            }
        } finally {
            try (Stream<Path> files = Files.walk(out)) {
                for (Path file : files.sorted(Comparator.reverseOrder()).toList()) {
                    Files.delete(file);
                }
            }
        }
    }

    private static void refusals(String page, String document) throws IOException {
        Map<String, Set<String>> promised = promised(document);
        Matcher row = ROW.matcher(page);
        Set<String> told = new TreeSet<>();
        while (row.find()) {
            String answer = row.group(2);
            told.add(answer);
            if (row.group(1) != null) {
                DUE.due("constant " + row.group(1), constant(row.group(1)), Long.parseLong(answer));
            }
            Set<String> want = promised.getOrDefault(answer, Set.of());
            Set<String> got = callsOf(row.group(4));
            if (!got.equals(want)) {
                DUE.fault("calls that answer " + answer + " are " + got + ", the document says " + want);
            }
        }
        if (!told.equals(promised.keySet())) {
            DUE.fault("refusals told are " + told + ", the document says " + promised.keySet());
        }
    }

    private static long constant(String name) {
        return Map.of("BAD", LeafFalls.BAD, "FULL", LeafFalls.FULL, "NONE", LeafFalls.NONE).getOrDefault(name, 0);
    }

    private static Set<String> callsOf(String words) {
        Set<String> named = new TreeSet<>();
        Matcher name = Pattern.compile("`(\\w+)`").matcher(words);
        while (name.find()) {
            named.add(name.group(1));
        }
        if (!words.startsWith(ALL_BUT)) {
            return named;
        }
        Set<String> others = new TreeSet<>();
        for (Method m : LeafFalls.class.getDeclaredMethods()) {
            if (Modifier.isPublic(m.getModifiers()) && m.getParameterCount() > 0 && !named.contains(m.getName())) {
                others.add(m.getName());
            }
        }
        return others;
    }

    /** What the promises name as refused, and by which calls. */
    private static Map<String, Set<String>> promised(String document) {
        Map<String, Set<String>> promised = new TreeMap<>();
        Matcher promise = Pattern.compile("(?m)^`(?:int|long) (\\w+)\\([^)]*\\)`: (.*)$").matcher(document);
        while (promise.find()) {
            Matcher refusal = Pattern.compile("\\b(?:BAD|FULL|NONE)\\b|-\\d+\\b").matcher(promise.group(2));
            while (refusal.find()) {
                String answer = switch (refusal.group()) {
                    case "BAD" -> "-1";
                    case "FULL" -> "-2";
                    case "NONE" -> "-3";
                    default -> refusal.group();
                };
                // a sort of -1 is no answer
                boolean sort = promise.group(2).startsWith("sort ", Math.max(0, refusal.start() - 5));
                if (!sort) {
                    promised.computeIfAbsent(answer, a -> new TreeSet<>()).add(promise.group(1));
                }
            }
        }
        // said ahead of the promises, where the acts' bodies are
        if (document.contains("(-15 if these are the same; that is all that act() answers then)")) {
            promised.computeIfAbsent("-15", a -> new TreeSet<>()).add("act");
        }
        return promised;
    }
}
