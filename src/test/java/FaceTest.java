import java.io.IOException;
import java.lang.reflect.Constructor;
import java.lang.reflect.Field;
import java.lang.reflect.Method;
import java.lang.reflect.Modifier;
import java.nio.file.Files;
import java.nio.file.Path;
import java.util.Set;
import java.util.StringJoiner;
import java.util.TreeSet;
import java.util.regex.Matcher;
import java.util.regex.Pattern;

/** "The public face", as ../shared/DOC.md writes it: every method and its types, and the constants and what they are. */
public final class FaceTest {
    private static final Due DUE = new Due("FaceTest");
    private static final Pattern METHOD = Pattern.compile("public (int|long) (\\w+)\\(([^)]*)\\);");
    private static final Pattern CONSTANT = Pattern.compile("(\\w+) = (-?\\d+)");
    private static final int METHODS = 45, CONSTANTS = 3;

    public static void main(String[] args) throws IOException {
        DUE.promise(0, "(the public face)");
        String document = Files.readString(Path.of("..", "shared", "DOC.md"));
        Matcher block = Pattern.compile("(?s)## The public face\\s+```java\\n(.*?)```").matcher(document);
        yes("the document has a face", block.find());
        String face = block.group(1);
        classAndConstructor(face);
        constants(face);
        methods(face);
        promises(document);
        DUE.close();
    }

    private static void yes(String what, boolean is) {
        DUE.due(what, is ? 1 : 0, 1);
    }

    private static void classAndConstructor(String face) {
        yes("the document wants a public final class", face.startsWith("public final class LeafFalls {") && face.contains("public LeafFalls();"));
        int is = LeafFalls.class.getModifiers();
        yes("the class is public and final", Modifier.isPublic(is) && Modifier.isFinal(is));
        Constructor<?>[] constructors = LeafFalls.class.getDeclaredConstructors();
        yes("one constructor, a public one without parameters", constructors.length == 1 && Modifier.isPublic(constructors[0].getModifiers())
            && constructors[0].getParameterCount() == 0 && constructors[0].getExceptionTypes().length == 0);
    }

    private static void constants(String face) throws IOException {
        Set<String> want = new TreeSet<>();
        Matcher line = Pattern.compile("public static final int ([^;]*);").matcher(face);
        yes("the document has a line of constants", line.find());
        Matcher constant = CONSTANT.matcher(line.group(1));
        while (constant.find()) {
            want.add("int " + constant.group(1) + " = " + constant.group(2));
        }
        Set<String> got = new TreeSet<>();
        for (Field f : LeafFalls.class.getDeclaredFields()) {
            if (Modifier.isPublic(f.getModifiers())) {
                yes(f.getName() + " is static and final", Modifier.isStatic(f.getModifiers()) && Modifier.isFinal(f.getModifiers()));
                got.add(f.getType().getName() + " " + f.getName() + " = " + valueOf(f));
            }
        }
        same("constants", got, want, CONSTANTS);
    }

    private static Object valueOf(Field f) throws IOException {
        try {
            return f.get(null);
        } catch (IllegalAccessException e) {
            throw new IOException(e);
        }
    }

    private static void methods(String face) {
        Set<String> want = new TreeSet<>();
        Matcher m = METHOD.matcher(face);
        while (m.find()) {
            want.add(m.group(1) + " " + m.group(2) + "(" + typesOf(m.group(3)) + ")");
        }
        Set<String> got = new TreeSet<>();
        for (Method method : LeafFalls.class.getDeclaredMethods()) {
            if (Modifier.isPublic(method.getModifiers())) {
                StringJoiner types = new StringJoiner(", ");
                for (Class<?> type : method.getParameterTypes()) {
                    types.add(type.getName());
                }
                got.add(method.getReturnType().getName() + " " + method.getName() + "(" + types + ")");
                yes(method.getName() + " is of an object, and throws nothing",
                    !Modifier.isStatic(method.getModifiers()) && method.getExceptionTypes().length == 0);
            }
        }
        same("methods", got, want, METHODS);
    }

    /** "int leaf, int what" is "int, int". */
    private static String typesOf(String parameters) {
        return parameters.replaceAll("(\\w+) \\w+", "$1");
    }

    private static void same(String what, Set<String> got, Set<String> want, int count) {
        DUE.due(what + " in the document", want.size(), count);
        for (String one : want) {
            yes(what + ": " + one, got.contains(one));
        }
        for (String one : got) {
            yes(what + ": " + one + " stands in the document", want.contains(one));
        }
    }

    /** Each promise's call is one of the class, with the same types. */
    private static void promises(String document) {
        Matcher promise = Pattern.compile("## Promise (\\d+): (.*)\\s+`(?:(int|long) )?(\\w+)\\(([^)]*)\\)`").matcher(document);
        int promises = 0;
        while (promise.find()) {
            promises++;
            String types = typesOf(promise.group(5));
            boolean found = promise.group(3) == null && promise.group(4).equals("LeafFalls") && types.isEmpty();
            for (Method m : LeafFalls.class.getDeclaredMethods()) {
                StringJoiner is = new StringJoiner(", ");
                for (Class<?> type : m.getParameterTypes()) {
                    is.add(type.getName());
                }
                found |= Modifier.isPublic(m.getModifiers()) && m.getName().equals(promise.group(4))
                    && m.getReturnType().getName().equals(promise.group(3)) && is.toString().equals(types);
            }
            yes("promise " + promise.group(1) + " has its call", found);
        }
        DUE.due("promises with a call", promises, METHODS + 1);
    }
}
