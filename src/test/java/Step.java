import java.util.ArrayList;
import java.util.List;
import java.util.regex.Matcher;
import java.util.regex.Pattern;

/**
 * One call of a script, or a text that is fed whole and then made the autumn, with the answer that is due. A script is
 * a row of these, parted by white space:
 * <pre>
 * set(0, 9) = 2        the answer is 2
 * set(0, 10) ! -1      the answer is -1, and nothing is changed by the call
 * "leaf on 1;" = 1     fed, autumn() answers 1 (\x0a in a text: that byte)
 * </pre>
 * MAX and MIN are the greatest and the least int.
 */
record Step(String name, long[] numbers, String text, boolean keeps, long want, String words) {
    private static final Pattern STEP = Pattern.compile("\\s*((?:(\\w+)\\(([^)]*)\\)|\"([^\"]*)\")\\s*([=!])\\s*(-?\\w+))\\s*");

    static List<Step> script(String script) {
        List<Step> steps = new ArrayList<>();
        Matcher m = STEP.matcher(script);
        int end = 0;
        while (end < script.length()) {
            if (!m.find(end) || m.start() != end) {
                throw new IllegalArgumentException("no step: " + script.substring(end));
            }
            steps.add(new Step(m.group(2), numbers(m.group(3)), bytes(m.group(4)), m.group(5).equals("!"), number(m.group(6)), m.group(1)));
            end = m.end();
        }
        return steps;
    }

    private static long[] numbers(String list) {
        if (list == null || list.isBlank()) {
            return new long[0];
        }
        String[] words = list.split(",");
        long[] numbers = new long[words.length];
        for (int i = 0; i < words.length; i++) {
            numbers[i] = number(words[i].strip());
        }
        return numbers;
    }

    private static long number(String word) {
        return word.equals("MAX") ? Integer.MAX_VALUE : word.equals("MIN") ? Integer.MIN_VALUE : Long.parseLong(word);
    }

    private static String bytes(String text) {
        return text == null ? null : Pattern.compile("\\\\x(..)").matcher(text)
            .replaceAll(m -> Matcher.quoteReplacement(String.valueOf((char) Integer.parseInt(m.group(1), 16))));
    }

    /** Up to eight bytes as feed() takes them, the lowest first. */
    static long eight(String text) {
        long eight = 0;
        for (int i = 0; i < text.length(); i++) {
            eight |= (text.charAt(i) & 255L) << (8 * i);
        }
        return eight;
    }
}
