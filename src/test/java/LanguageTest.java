import java.io.DataInputStream;
import java.io.IOException;
import java.io.InputStream;
import java.lang.reflect.Field;
import java.lang.reflect.Method;
import java.lang.reflect.Modifier;
import java.nio.charset.StandardCharsets;
import java.nio.file.Files;
import java.nio.file.Path;
import java.util.ArrayList;
import java.util.List;
import java.util.Map;
import java.util.Set;
import java.util.TreeSet;
import java.util.regex.Matcher;
import java.util.regex.Pattern;

/** The rules of ../shared/LANGUAGE.md that can be seen from the text, the face and the compiled classes. */
public final class LanguageTest {
    private static final Due DUE = new Due("LanguageTest");
    private static final Path SOURCE = Path.of("src/main/java/LeafFalls.java");

    /** Rule 4: what a call may name of each class of the library; * stands for all but those whose name ends in Exact. */
    private static final Map<String, Set<String>> LIBRARY = Map.of(
        "java/lang/Object", Set.of("<init>"),
        "java/lang/String", Set.of("length", "charAt", "isEmpty", "equals", "indexOf", "substring", "toCharArray", "<init>"),
        "java/lang/StringBuilder", Set.of("<init>", "append", "charAt", "setCharAt", "setLength", "deleteCharAt", "reverse", "length", "toString"),
        "java/util/ArrayList", Set.of("<init>", "add", "get", "set", "remove", "size", "isEmpty", "clear", "iterator"),
        "java/util/List", Set.of("add", "get", "set", "remove", "size", "isEmpty", "clear", "iterator", "of"),
        "java/util/Arrays", Set.of("copyOf", "copyOfRange", "fill"),
        "java/lang/System", Set.of("arraycopy"),
        "java/lang/Integer", Set.of("*"),
        "java/lang/Long", Set.of("*"),
        "java/lang/Math", Set.of("*"));

    private static boolean isAllowed(String type, String call) {
        Set<String> calls = LIBRARY.getOrDefault(type, Set.of());
        return type.startsWith("LeafFalls") || type.startsWith("[") || calls.contains(call) || calls.contains("*") && !call.endsWith("Exact");
    }

    public static void main(String[] args) throws IOException {
        face();
        text();
        List<Class<?>> classes = new ArrayList<>(List.of(LeafFalls.class));
        classes.addAll(List.of(LeafFalls.class.getDeclaredClasses()));
        DUE.promise(11, "(rule) classes");
        DUE.due("at most twelve classes", classes.size() <= 12 ? 1 : 0, 1);
        for (Class<?> c : classes) {
            members(c);
            library(c);
        }
        DUE.close();
    }

    private static void yes(String what, boolean is) {
        DUE.due(what, is ? 1 : 0, 1);
    }

    /** What isn't of the document's face (FaceTest looks at that) is private, and bears none of its names. */
    private static void face() {
        DUE.promise(1, "(rule) the face");
        Set<String> names = new TreeSet<>();
        for (Method m : LeafFalls.class.getDeclaredMethods()) {
            if (Modifier.isPublic(m.getModifiers())) {
                names.add(m.getName());
            }
        }
        for (Field f : LeafFalls.class.getDeclaredFields()) {
            yes("field " + f.getName() + " is private", Modifier.isPublic(f.getModifiers()) || Modifier.isPrivate(f.getModifiers()));
        }
        for (Method m : LeafFalls.class.getDeclaredMethods()) {
            if (!Modifier.isPublic(m.getModifiers())) {
                yes(m.getName() + " is private", Modifier.isPrivate(m.getModifiers()));
                yes(m.getName() + " is no public name", !names.contains(m.getName()));
            }
        }
        for (Class<?> c : LeafFalls.class.getDeclaredClasses()) {
            yes(c.getName() + " is static", Modifier.isStatic(c.getModifiers()));
            yes(c.getName() + " is private", Modifier.isPrivate(c.getModifiers()));
            for (Method m : c.getDeclaredMethods()) {
                yes(c.getName() + "." + m.getName() + " is no public name", !names.contains(m.getName()));
            }
        }
    }

    private static void members(Class<?> c) {
        DUE.promise(11, "(rule) sizes of " + c.getName());
        int fields = 0;
        for (Field f : c.getDeclaredFields()) {
            boolean constant = Modifier.isStatic(f.getModifiers());
            fields += constant ? 0 : 1;
            yes("static " + f.getName() + " is final", !constant || Modifier.isFinal(f.getModifiers()));
        }
        yes("at most twenty fields", fields <= 20);
        for (Method m : c.getDeclaredMethods()) {
            yes(m.getName() + " takes at most seven", m.getParameterCount() <= 7);
            yes(m.getName() + " is no overridden one of Object", !Set.of("equals", "hashCode", "toString", "finalize").contains(m.getName()));
        }
    }

    private static void text() throws IOException {
        DUE.promise(6, "(rule) words");
        String source = Files.readString(SOURCE, StandardCharsets.UTF_8);
        yes("signs are 1 to 127", source.chars().allMatch(ch -> ch > 0 && ch < 128));
        yes("no package, no imports", !Pattern.compile("^\\s*(package|import)\\b", Pattern.MULTILINE).matcher(source).find());
        String code = source.replaceAll("(?s)/\\*.*?\\*/", "").replaceAll("//[^\n]*", "");
        String bare = code.replaceAll("\"[^\"]*\"", "\"\"");
        for (String word : List.of("throw", "throws", "try", "catch", "finally", "synchronized", "assert", "protected", "native", "volatile",
                "transient", "record", "var", "yield")) {
            yes("no " + word, !Pattern.compile("\\b" + word + "\\b").matcher(bare).find());
        }
        for (String sign : List.of("->", "::", "@", "\"\" +", "+ \"\"", "\"\"\"")) {
            yes("no " + sign, !bare.contains(sign));
        }
        yes("no static initialiser", !Pattern.compile("static\\s*\\{").matcher(bare).find());
        yes("no endless loop", !Pattern.compile("while\\s*\\(\\s*true|for\\s*\\([^;]*;\\s*;").matcher(bare).find());
        methodLengths(code);
    }

    private static void methodLengths(String code) {
        DUE.promise(11, "(rule) sizes");
        String[] lines = code.split("\n");
        Pattern begin = Pattern.compile("^(    |        )[A-Za-z].*\\) \\{$");
        for (int i = 0; i < lines.length; i++) {
            Matcher m = begin.matcher(lines[i]);
            if (m.find()) {
                int end = i;
                while (end < lines.length && !lines[end].equals(m.group(1) + "}")) {
                    end++;
                }
                yes("at most sixty lines: " + lines[i].strip(), end - i < 60);
            }
        }
    }

    /** What of the library a class calls, and what it names at all, from its pool of constants. */
    private static void library(Class<?> c) throws IOException {
        DUE.promise(4, "(rule) library of " + c.getName());
        try (InputStream in = LanguageTest.class.getResourceAsStream("/" + c.getName() + ".class"); DataInputStream data = new DataInputStream(in)) {
            data.readInt();
            data.readInt();
            int count = data.readUnsignedShort();
            String[] texts = new String[count];
            int[] first = new int[count];
            int[] second = new int[count];
            int[] tags = new int[count];
            for (int i = 1; i < count; i++) {
                tags[i] = data.readUnsignedByte();
                switch (tags[i]) {
                    case 1 -> texts[i] = data.readUTF();
                    case 3, 4 -> data.readInt();
                    case 5, 6 -> {
                        data.readLong();
                        i++;
                    }
                    case 7, 8, 16, 19, 20 -> first[i] = data.readUnsignedShort();
                    case 15 -> {
                        data.readUnsignedByte();
                        data.readUnsignedShort();
                    }
                    default -> {
                        first[i] = data.readUnsignedShort();
                        second[i] = data.readUnsignedShort();
                    }
                }
            }
            for (int i = 1; i < count; i++) {
                yes("no call made at run time (a lambda, a joined text)", tags[i] != 18 && tags[i] != 15);
                if (tags[i] == 7) {
                    String type = texts[first[i]];
                    yes("class " + type, type.startsWith("LeafFalls") || type.startsWith("[") || LIBRARY.containsKey(type));
                }
                if (tags[i] == 10 || tags[i] == 11) {
                    String type = texts[first[first[i]]];
                    String call = texts[first[second[i]]];
                    yes("call " + type + "." + call, isAllowed(type, call));
                }
            }
        }
    }
}
