import java.lang.reflect.InvocationTargetException;
import java.lang.reflect.Method;
import java.lang.reflect.Modifier;
import java.util.HashMap;
import java.util.List;
import java.util.Map;

/** A new object and its calls, which are counted: the document promises nothing behind the 512th. */
final class Play {
    static final int MOST_CALLS = 512;

    /** What a call threw, or that there were too many. */
    static final class Thrown extends RuntimeException {
        private static final long serialVersionUID = 1;

        Thrown(String what) {
            super(what);
        }
    }

    private static final Map<String, Method> FACE = new HashMap<>();

    static {
        for (Method m : LeafFalls.class.getDeclaredMethods()) {
            if (Modifier.isPublic(m.getModifiers())) {
                FACE.put(m.getName(), m);
            }
        }
    }

    private final LeafFalls x = new LeafFalls();
    private int calls;

    static Play of(List<Step> steps) {
        Play play = new Play();
        for (Step step : steps) {
            play.step(step);
        }
        return play;
    }

    long step(Step step) {
        if (step.text() == null) {
            return call(step.name(), step.numbers());
        }
        feed(step.text());
        return call("autumn");
    }

    long call(String name, long... numbers) {
        Method m = FACE.get(name);
        if (m == null || m.getParameterCount() != numbers.length) {
            throw new Thrown("there is no call " + name + " with " + numbers.length + " numbers");
        }
        calls++;
        if (calls > MOST_CALLS) {
            throw new Thrown("more than " + MOST_CALLS + " calls of one object");
        }
        Object[] given = new Object[numbers.length];
        for (int i = 0; i < given.length; i++) {
            given[i] = m.getParameterTypes()[i] == long.class ? (Object) numbers[i] : (Object) Math.toIntExact(numbers[i]);
        }
        try {
            return ((Number) m.invoke(x, given)).longValue();
        } catch (InvocationTargetException e) {
            throw new Thrown(name + " threw " + e.getCause());
        } catch (IllegalAccessException e) {
            throw new Thrown(name + ": " + e);
        }
    }

    private void feed(String text) {
        for (int at = 0; at < text.length(); at += 8) {
            String eight = text.substring(at, Math.min(text.length(), at + 8));
            call("feed", Step.eight(eight), eight.length());
        }
    }

    /** All that can be asked of the object; it is used up by this. Two of one state tell the same. */
    String all() {
        StringBuilder told = new StringBuilder();
        tellTree(told);
        tell(told, "many", 7);
        for (int i = 0; i < call("many", 4); i++) {
            tell(told, "row", 3, i);
        }
        for (int sheet = 0; sheet < 4; sheet++) {
            tellSheet(told, sheet);
        }
        for (int shelf = 0; shelf < 4; shelf++) {
            tell(told, "taken", 6, shelf);
            for (int as = 10; as < 14; as++) {
                told.append(' ').append(call("taken", shelf, as));
            }
        }
        told.append("\ntrace");
        for (int i = 0; i < call("many", 6); i++) {
            told.append(' ').append(call("trace", i));
        }
        // what is kept, and what the tape holds, can be seen only by going there
        told.append("\nagain ").append(call("again"));
        tellTree(told);
        told.append("\nautumn ").append(call("autumn"));
        tellTree(told);
        return told.toString();
    }

    private void tellTree(StringBuilder told) {
        tell(told, "lawOf", 4);
        for (int bough = 0; bough < 6; bough++) {
            told.append("\nsway ").append(call("bough", bough, 0));
        }
        for (int leaf = 0; leaf < call("many", 0); leaf++) {
            tell(told, "of", 6, leaf);
        }
        long z = call("seed", 0);
        call("seed", z);
        told.append("\nday ").append(call("state", 0)).append(" z ").append(z);
    }

    private void tellSheet(StringBuilder told, int sheet) {
        for (int sort = 0; sort < 4; sort++) {
            long item = call("item", sheet, sort, 0);
            told.append("\nsheet ").append(item);
            for (int i = 1; i < 40 && item != -11 && item != -12 && item != -13; i++) {
                item = call("item", sheet, sort, i);
                told.append(' ').append(item);
            }
        }
    }

    /** A call for each last number from 0 to below an end. */
    private void tell(StringBuilder told, String name, int end, long... numbers) {
        told.append('\n').append(name);
        for (int i = 0; i < end; i++) {
            long[] all = java.util.Arrays.copyOf(numbers, numbers.length + 1);
            all[numbers.length] = i;
            told.append(' ').append(call(name, all));
        }
    }
}
