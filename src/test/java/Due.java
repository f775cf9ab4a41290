import java.util.function.LongSupplier;

/** Counts the answers that are due and those that are not, and ends a test. */
final class Due {
    private final String test;
    private int right;
    private int wrong;
    private String promise = "";

    Due(String test) {
        this.test = test;
    }

    /** The promise that the next answers belong to. */
    void promise(int number, String name) {
        promise = number + " " + name;
    }

    void due(String call, long got, long want) {
        if (got == want) {
            right++;
            return;
        }
        wrong++;
        System.out.println(test + ", promise " + promise + ": " + call + " answered " + got + ", due is " + want);
    }

    /** For what must not throw either. */
    void due(String call, LongSupplier got, long want) {
        try {
            due(call, got.getAsLong(), want);
        } catch (RuntimeException e) {
            wrong++;
            System.out.println(test + ", promise " + promise + ": " + call + " threw " + e);
        }
    }

    void close() {
        System.out.println(test + ": " + right + " answers as due, " + wrong + " not");
        if (wrong != 0 || right == 0) {
            System.exit(1);
        }
    }

    /** Feeds a whole text, eight bytes a call; the last answer. */
    static int feed(LeafFalls x, String text) {
        int answer = 0;
        for (int at = 0; at < text.length(); at += 8) {
            int n = Math.min(8, text.length() - at);
            long eight = 0;
            for (int i = 0; i < n; i++) {
                eight |= (text.charAt(at + i) & 255L) << (8 * i);
            }
            answer = x.feed(eight, n);
        }
        return answer;
    }

    static LeafFalls told(String text) {
        LeafFalls x = new LeafFalls();
        feed(x, text);
        int answer = x.autumn();
        if (answer < 0) {
            throw new IllegalStateException(text + ": " + answer);
        }
        return x;
    }

    /** What every question answers that changes nothing: two objects of the same state tell the same. */
    static String all(LeafFalls x) {
        StringBuilder all = new StringBuilder();
        for (int i = 0; i < 4; i++) {
            all.append("law ").append(x.lawOf(i)).append('\n');
        }
        for (int i = 0; i < 6; i++) {
            all.append("bough ").append(x.bough(i, 0)).append(' ').append(x.bough(i, 1)).append('\n');
        }
        for (int i = 0; i < 8; i++) {
            all.append("leaf");
            for (int what = 0; what < 7; what++) {
                all.append(' ').append(x.of(i, what));
            }
            all.append('\n');
        }
        for (int i = 0; i < 7; i++) {
            all.append("state ").append(x.state(i)).append(" many ").append(x.many(i)).append('\n');
        }
        for (int i = 0; i < 8; i++) {
            all.append("written ").append(x.written(i)).append('\n');
        }
        for (int i = 0; i < 10; i++) {
            all.append("row ").append(x.row(i, 0)).append(' ').append(x.row(i, 1)).append(' ').append(x.row(i, 2)).append('\n');
        }
        for (int sheet = 0; sheet < 4; sheet++) {
            for (int sort = 0; sort < 4; sort++) {
                all.append("sheet ").append(x.item(sheet, sort, 0)).append(' ').append(x.item(sheet, sort, 39)).append('\n');
            }
        }
        for (int shelf = 0; shelf < 4; shelf++) {
            all.append("shelf");
            for (int as = 0; as < 14; as++) {
                all.append(' ').append(x.taken(shelf, as));
            }
            all.append('\n');
        }
        for (int i = 0; i < 30; i++) {
            all.append("trace ").append(x.trace(i)).append('\n');
        }
        int z = x.seed(0);
        x.seed(z);
        return all.append("z ").append(z).append('\n').toString();
    }

    /** Nothing but the answer may come of a call. */
    void keeps(String call, LeafFalls x, LongSupplier got, long want) {
        String before = all(x);
        due(call, got, want);
        due(call + " changes nothing", all(x).equals(before) ? 1 : 0, 1);
    }
}
