import java.math.BigInteger;
import java.util.ArrayList;
import java.util.Arrays;
import java.util.List;
import java.util.function.IntSupplier;
import java.util.regex.Matcher;
import java.util.regex.Pattern;

/**
 * The document a second time, as plainly as the Java library allows and in another way than the class does it:
 * kinds are classes that override, states are copied whole, the text is cut by patterns. It exists to disagree.
 */
final class Model {
    /** A leaf as the document's kinds: each overrides what differs. */
    static class Leaf implements Cloneable {
        int kind;
        int bough;
        int hold;
        int sign;
        int fallen;

        int loses(State s, int self) {
            return 1 + s.laws[0] + s.sways[bough];
        }

        int rank() {
            return sign;
        }

        Leaf copy() {
            Leaf l = of(kind);
            l.bough = bough;
            l.hold = hold;
            l.sign = sign;
            l.fallen = fallen;
            return l;
        }

        static Leaf of(int kind) {
            Leaf l = switch (kind) {
                case 0 -> new Leaf();
                case 1 -> new Red();
                case 2 -> new Yellow();
                case 3 -> new Scarlet();
                case 4 -> new Gold();
                default -> new Evergreen();
            };
            l.kind = kind;
            return l;
        }

        // acts
        int n;
        List<Integer> trace;

        int turns(int x) {
            trace.add(10);
            return x * 2 + n * 5;
        }

        int names(int x) {
            trace.add(11);
            return turns(x) - sign;
        }

        int parts(int x) {
            trace.add(12);
            return x / (sign - n);
        }

        int lands(int x) {
            trace.add(13);
            return names(x) ^ 20;
        }
    }

    static class Red extends Leaf {
        @Override int loses(State s, int self) {
            return super.loses(s, self) + s.laws[1];
        }

        @Override int rank() {
            return super.rank() + 3;
        }

        @Override int names(int x) {
            trace.add(20);
            return super.names(x) + 7;
        }
    }

    static class Yellow extends Leaf {
        @Override int loses(State s, int self) {
            return super.loses(s, self) - s.mates(self);
        }

        @Override int rank() {
            return 10 - super.rank();
        }

        @Override int turns(int x) {
            trace.add(30);
            return super.turns(x) ^ 1;
        }

        @Override int lands(int x) {
            trace.add(31);
            return super.lands(x) - parts(n);
        }
    }

    static final class Scarlet extends Red {
        @Override int loses(State s, int self) {
            return super.loses(s, self) * 2;
        }

        @Override int rank() {
            return super.rank() + bough;
        }

        @Override int parts(int x) {
            trace.add(50);
            return 0 - super.parts(x + 3);
        }

        @Override int turns(int x) {
            trace.add(51);
            return super.turns(x) + sign;
        }
    }

    static final class Gold extends Yellow {
        @Override int loses(State s, int self) {
            int l = super.loses(s, self);
            return s.day % 2 == 0 ? l + s.laws[2] : l;
        }

        @Override int rank() {
            return super.rank() * 2;
        }

        @Override int turns(int x) {
            trace.add(40);
            return super.turns(x) * 2;
        }

        @Override int names(int x) {
            trace.add(41);
            return super.names(x) - turns(sign);
        }
    }

    static final class Evergreen extends Leaf {
        @Override int loses(State s, int self) {
            return s.day % 5 != 0 ? 0 : super.loses(s, self);
        }

        @Override int rank() {
            return 0 - super.rank();
        }

        @Override int lands(int x) {
            trace.add(60);
            return super.lands(x) ^ x;
        }

        @Override int parts(int x) {
            trace.add(61);
            return super.parts(x) + turns(n);
        }
    }

    static final class State {
        int[] laws = {2, 1, 1, 20};
        int[] sways = {1, 1, 1, 1, 1, 1};
        List<Leaf> leaves = new ArrayList<>();
        int day;
        int z = 1;

        State copy() {
            State s = new State();
            s.laws = laws.clone();
            s.sways = sways.clone();
            for (Leaf l : leaves) {
                s.leaves.add(l.copy());
            }
            s.day = day;
            s.z = z;
            return s;
        }

        int mates(int self) {
            int m = 0;
            for (int i = 0; i < leaves.size(); i++) {
                if (i != self && leaves.get(i).fallen == 0 && leaves.get(i).bough == leaves.get(self).bough) {
                    m++;
                }
            }
            return m;
        }

        int hang() {
            return (int) leaves.stream().filter(l -> l.fallen == 0).count();
        }

        int gone() {
            return leaves.size() - hang();
        }

        int pass(int tied) {
            int[] losses = new int[leaves.size()];
            for (int i = 0; i < losses.length; i++) {
                losses[i] = (tied >> i & 1) == 1 ? 0 : leaves.get(i).loses(this, i);
            }
            int best = -1;
            for (int i = 0; i < losses.length; i++) {
                Leaf l = leaves.get(i);
                if (l.fallen != 0) {
                    continue;
                }
                l.hold = Math.min(99, Math.max(0, l.hold - losses[i]));
                if (l.hold == 0 && (tied >> i & 1) == 0 && (best == -1 || l.rank() > leaves.get(best).rank())) {
                    best = i;
                }
            }
            if (best != -1) {
                leaves.get(best).fallen = gone() + 1;
            }
            day++;
            return best;
        }

        int draw() {
            z = (int) (z * 1103515245L + 12345L);
            return (int) ((z & 0xffffffffL) >> 16);
        }

        int passByDraws() {
            if (!leaves.isEmpty()) {
                Leaf l = leaves.get(draw() % leaves.size());
                if (draw() % 100 < laws[3]) {
                    l.hold = l.hold / 3;
                }
            }
            return pass(0);
        }

        String written() {
            StringBuilder w = new StringBuilder();
            leaves.stream().filter(l -> l.fallen > 0).sorted((a, b) -> a.fallen - b.fallen).forEach(l -> w.append(l.sign));
            return w.toString();
        }

        int falls(int leaf) {
            State s = copy();
            int d = 0;
            while (s.leaves.get(leaf).fallen == 0) {
                if (d == 60) {
                    return 1000;
                }
                s.pass(0);
                d++;
            }
            return d;
        }

        boolean hangsBehind(int leaf, int n, int tied) {
            State s = copy();
            for (int i = 0; i < n; i++) {
                s.pass(tied);
            }
            return s.leaves.get(leaf).fallen == 0;
        }
    }

    State now = new State();
    State kept;
    StringBuilder tape = new StringBuilder();
    List<int[]> rows = new ArrayList<>();
    Object[] sheets = new Object[4];
    Object[] shelves = new Object[4];
    List<Integer> trace = new ArrayList<>();

    private static boolean in(int v, int from, int to) {
        return from <= v && v <= to;
    }

    private boolean leafs(int leaf) {
        return in(leaf, 0, now.leaves.size() - 1);
    }

    int feed(long eight, int n) {
        if (!in(n, 1, 8)) {
            return -1;
        }
        if (tape.length() + n > 200) {
            return -2;
        }
        for (int i = 0; i < n; i++) {
            tape.append((char) (eight >> 8 * i & 255));
        }
        return tape.length();
    }

    private static final class Fault extends RuntimeException {
        private static final long serialVersionUID = 1;
        final int at;

        Fault(int at) {
            super(null, null, false, false);
            this.at = at;
        }
    }

    private static final List<String> KINDS = List.of("leaf", "red", "yellow", "scarlet", "gold", "evergreen");
    private static final List<String> LAWS = List.of("wind", "cold", "wet", "gale");

    private List<String> words;
    private List<Integer> places;
    private int at;

    private String peek() {
        return words.get(at);
    }

    private void want(String word) {
        if (!peek().equals(word)) {
            throw new Fault(places.get(at));
        }
        at++;
    }

    private int number(int most) {
        if (!peek().matches("[0-9]{1,3}") || Integer.parseInt(peek()) > most) {
            throw new Fault(places.get(at));
        }
        return Integer.parseInt(words.get(at++));
    }

    private void read(State s) {
        String word = peek();
        int kind = KINDS.indexOf(word);
        int law = LAWS.indexOf(word);
        if (kind >= 0) {
            if (s.leaves.size() == 8) {
                throw new Fault(places.get(at));
            }
            at++;
            Leaf l = Leaf.of(kind);
            want("on");
            l.bough = number(5);
            l.hold = 10;
            if (peek().equals("hold")) {
                at++;
                l.hold = number(99);
            }
            if (peek().equals("sign")) {
                at++;
                l.sign = number(9);
            }
            want(";");
            s.leaves.add(l);
        } else if (word.equals("sway")) {
            at++;
            int b = number(5);
            want("is");
            int v = number(9);
            want(";");
            s.sways[b] = v;
        } else if (law >= 0) {
            at++;
            int v = number(law == 3 ? 99 : 9);
            want(";");
            s.laws[law] = v;
        } else {
            throw new Fault(places.get(at));
        }
    }

    int autumn() {
        words = new ArrayList<>();
        places = new ArrayList<>();
        Matcher m = Pattern.compile("[a-z]+|[0-9]+|[^ ]", Pattern.DOTALL).matcher(tape);
        while (m.find()) {
            words.add(m.group());
            places.add(m.start());
        }
        int end = words.size();
        words.add("");
        places.add(tape.length());
        tape.setLength(0);
        at = 0;
        State s = new State();
        try {
            while (at < end) {
                read(s);
            }
        } catch (Fault f) {
            return -100 - f.at;
        }
        s.z = now.z;
        now = s;
        rows.clear();
        return s.leaves.size();
    }

    int set(int law, int v) {
        if (!in(law, 0, 3) || !in(v, 0, law == 3 ? 99 : 9)) {
            return -1;
        }
        int was = now.laws[law];
        now.laws[law] = v;
        return was;
    }

    int lawOf(int law) {
        return in(law, 0, 3) ? now.laws[law] : -1;
    }

    int leaf(int kind, int bough, int hold, int sign) {
        if (!in(kind, 0, 5) || !in(bough, 0, 5) || !in(hold, 0, 99) || !in(sign, 0, 9)) {
            return -1;
        }
        if (now.leaves.size() == 8) {
            return -2;
        }
        Leaf l = Leaf.of(kind);
        l.bough = bough;
        l.hold = hold;
        l.sign = sign;
        now.leaves.add(l);
        return now.leaves.size() - 1;
    }

    int of(int leaf, int what) {
        if (!leafs(leaf) || !in(what, 0, 6)) {
            return -1;
        }
        Leaf l = now.leaves.get(leaf);
        return new int[] {l.kind, l.bough, l.hold, l.sign, l.fallen == 0 ? 1 : 0, l.fallen, now.mates(leaf)}[what];
    }

    int does(int leaf, int what) {
        if (!leafs(leaf) || !in(what, 0, 1)) {
            return -1;
        }
        Leaf l = now.leaves.get(leaf);
        return 1000 + (what == 0 ? l.loses(now, leaf) : l.rank());
    }

    int mind(int leaf, int kind, int sign) {
        if (!leafs(leaf) || !in(kind, 0, 5) || !in(sign, 0, 9)) {
            return -1;
        }
        Leaf l = now.leaves.get(leaf);
        int was = l.kind;
        l.kind = kind;
        l.sign = sign;
        now.leaves.set(leaf, l.copy());
        return was;
    }

    int hold(int leaf, int v) {
        if (!leafs(leaf) || !in(v, 0, 99)) {
            return -1;
        }
        int was = now.leaves.get(leaf).hold;
        now.leaves.get(leaf).hold = v;
        return was;
    }

    int move(int leaf, int bough) {
        if (!leafs(leaf) || !in(bough, 0, 5)) {
            return -1;
        }
        int was = now.leaves.get(leaf).bough;
        now.leaves.get(leaf).bough = bough;
        return was;
    }

    int pluck(int leaf) {
        if (!leafs(leaf)) {
            return -1;
        }
        if (now.leaves.get(leaf).fallen > 0) {
            return -3;
        }
        now.leaves.get(leaf).fallen = now.gone() + 1;
        return now.hang();
    }

    int bough(int bough, int what) {
        if (!in(bough, 0, 5) || !in(what, 0, 1)) {
            return -1;
        }
        if (what == 0) {
            return now.sways[bough];
        }
        int set = 0;
        for (int i = 0; i < now.leaves.size(); i++) {
            if (now.leaves.get(i).fallen == 0 && now.leaves.get(i).bough == bough) {
                set += 1 << i;
            }
        }
        return set;
    }

    int sway(int bough, int v) {
        if (!in(bough, 0, 5) || !in(v, 0, 9)) {
            return -1;
        }
        int was = now.sways[bough];
        now.sways[bough] = v;
        return was;
    }

    int days(int n) {
        if (!in(n, 1, 60)) {
            return -1;
        }
        for (int i = 0; i < n; i++) {
            now.pass(0);
        }
        return now.hang();
    }

    int seed(int v) {
        int was = now.z;
        now.z = v;
        return was;
    }

    int day() {
        now.passByDraws();
        return now.hang();
    }

    int lost(int n) {
        if (!in(n, 1, 30)) {
            return -1;
        }
        int plain = now.copy().pass(0);
        int z = now.z;
        int k = 0;
        for (int i = 0; i < n; i++) {
            State s = now.copy();
            s.z = z;
            k += s.passByDraws() == plain ? 0 : 1;
            z = s.z;
        }
        return k;
    }

    int written(int i) {
        String w = now.written();
        return in(i, 0, w.length() - 1) ? w.charAt(i) - '0' : -3;
    }

    int state(int what) {
        String w = now.written();
        switch (what) {
            case 0: return now.day;
            case 1: return bough(0, 1) + bough(1, 1) + bough(2, 1) + bough(3, 1) + bough(4, 1) + bough(5, 1);
            case 2: return now.leaves.stream().filter(l -> l.fallen == 0).mapToInt(l -> l.hold).sum();
            case 3: {
                int r = 0;
                for (int i = 0; i + 1 < w.length(); i++) {
                    r += w.charAt(i) == w.charAt(i + 1) ? 1 : 0;
                }
                return r;
            }
            case 4: return w.isEmpty() ? 0 : Integer.parseInt(w);
            case 5: return Arrays.stream(now.sways).sum();
            default: return -1;
        }
    }

    int falls(int leaf) {
        return !leafs(leaf) ? -1 : now.falls(leaf) > 60 ? -3 : now.falls(leaf);
    }

    int bare() {
        int most = 0;
        for (int i = 0; i < now.leaves.size(); i++) {
            most = Math.max(most, now.falls(i));
        }
        return most > 60 ? -3 : most;
    }

    int next() {
        int best = -3;
        int least = 61;
        for (int i = 0; i < now.leaves.size(); i++) {
            if (now.leaves.get(i).fallen == 0 && now.falls(i) < least) {
                best = i;
                least = now.falls(i);
            }
        }
        return best;
    }

    int latest() {
        int best = -3;
        int most = -1;
        for (int i = 0; i < now.leaves.size(); i++) {
            if (now.leaves.get(i).fallen == 0 && now.falls(i) > most) {
                best = i;
                most = now.falls(i);
            }
        }
        return best;
    }

    int boughFor(int leaf) {
        if (!leafs(leaf)) {
            return -1;
        }
        Leaf l = now.leaves.get(leaf);
        if (l.fallen > 0) {
            return -3;
        }
        int was = l.bough;
        int best = -1;
        int most = -1;
        for (int b = 0; b < 6; b++) {
            l.bough = b;
            if (now.falls(leaf) > most) {
                most = now.falls(leaf);
                best = b;
            }
        }
        l.bough = was;
        return best;
    }

    int kindFor(int leaf) {
        if (!leafs(leaf)) {
            return -1;
        }
        Leaf l = now.leaves.get(leaf);
        if (l.fallen > 0) {
            return -3;
        }
        int was = l.kind;
        int best = -1;
        int most = -1;
        for (int k = 0; k < 6; k++) {
            mind(leaf, k, l.sign);
            if (now.falls(leaf) > most) {
                most = now.falls(leaf);
                best = k;
            }
        }
        mind(leaf, was, l.sign);
        return best;
    }

    int holdFor(int leaf, int n) {
        if (!leafs(leaf) || !in(n, 1, 20)) {
            return -1;
        }
        Leaf l = now.leaves.get(leaf);
        int was = l.hold;
        int best = -3;
        for (int h = 99; h >= 0; h--) {
            l.hold = h;
            if (now.hangsBehind(leaf, n, 0)) {
                best = h;
            }
        }
        l.hold = was;
        return best;
    }

    int tiedFor(int leaf, int n) {
        if (!leafs(leaf) || !in(n, 1, 20)) {
            return -1;
        }
        if (now.leaves.get(leaf).fallen > 0) {
            return -3;
        }
        int others = state(1) - (1 << leaf);
        for (int size = 0; size < 8; size++) {
            for (int set = 0; set < 256; set++) {
                if (Integer.bitCount(set) == size && (set | others) == others && now.hangsBehind(leaf, n, set)) {
                    return set;
                }
            }
        }
        return -3;
    }

    private static int length(Object row) {
        return java.lang.reflect.Array.getLength(row);
    }

    private static long number(Object row, int i) {
        return ((Number) java.lang.reflect.Array.get(row, i)).longValue();
    }

    int fits(int sheet, int leaf, int what) {
        if (!in(sheet, 0, 3) || !leafs(leaf) || !in(what, 0, 1)) {
            return -1;
        }
        if (sheets[sheet] == null) {
            return -11;
        }
        List<Integer> fitting = new ArrayList<>();
        for (int h = 0; h < 100; h++) {
            State s = now.copy();
            s.leaves.get(leaf).hold = h;
            boolean fits = true;
            for (int i = 0; i < length(sheets[sheet]); i++) {
                int f = s.pass(0);
                long told = number(sheets[sheet], i);
                fits &= told == -1 || told == (f < 0 ? 10 : s.leaves.get(f).sign);
            }
            if (fits) {
                fitting.add(h);
            }
        }
        return what == 0 ? fitting.size() : fitting.isEmpty() ? -3 : fitting.get(0);
    }

    private static long part(BigInteger above, BigInteger below, int part) {
        BigInteger d = above.gcd(below);
        return (part == 0 ? above : below).divide(d).longValueExact();
    }

    long odds(int n, int k, int part) {
        if (!in(n, 0, 8) || !in(k, 0, n) || !in(part, 0, 1)) {
            return -1;
        }
        // day by day: how many of 100^n ways have j gales
        BigInteger[] ways = new BigInteger[n + 1];
        Arrays.fill(ways, BigInteger.ZERO);
        ways[0] = BigInteger.ONE;
        for (int i = 0; i < n; i++) {
            for (int j = n; j >= 0; j--) {
                BigInteger calm = ways[j].multiply(BigInteger.valueOf(100 - now.laws[3]));
                ways[j] = j == 0 ? calm : calm.add(ways[j - 1].multiply(BigInteger.valueOf(now.laws[3])));
            }
        }
        return part(ways[k], BigInteger.valueOf(100).pow(n), part);
    }

    long hope(int n, int part) {
        if (!in(n, 0, 99) || !in(part, 0, 1)) {
            return -1;
        }
        return part(BigInteger.valueOf(n * now.laws[3]), BigInteger.valueOf(100), part);
    }

    private List<int[]> proof(int leaf, int n) {
        List<int[]> proof = new ArrayList<>();
        State s = now.copy();
        for (int i = 0; i < n; i++) {
            s.pass(0);
            proof.add(new int[] {s.leaves.get(leaf).hold, s.leaves.get(leaf).fallen == 0 ? 1 : 0, s.gone()});
        }
        return proof;
    }

    int prove(int leaf, int n) {
        if (!leafs(leaf) || !in(n, 1, 10)) {
            return -1;
        }
        rows = proof(leaf, n);
        return n;
    }

    int row(int i, int what) {
        return in(i, 0, rows.size() - 1) && in(what, 0, 2) ? rows.get(i)[what] : -9;
    }

    int alterRow(int i, int what, int v) {
        int was = row(i, what);
        if (in(i, 0, rows.size() - 1) && in(what, 0, 2)) {
            rows.get(i)[what] = v;
        }
        return was;
    }

    int judge(int leaf) {
        if (!leafs(leaf)) {
            return -1;
        }
        List<int[]> right = proof(leaf, rows.size());
        for (int i = 0; i < rows.size(); i++) {
            if (!Arrays.equals(right.get(i), rows.get(i))) {
                return i + 1;
            }
        }
        return 0;
    }

    /** What the host answers, as its own exceptions. */
    private static int host(IntSupplier call) {
        try {
            return call.getAsInt();
        } catch (NullPointerException e) {
            return -11;
        } catch (ArrayIndexOutOfBoundsException e) {
            return -12;
        } catch (ClassCastException e) {
            return -13;
        } catch (NegativeArraySizeException e) {
            return -14;
        } catch (ArithmeticException e) {
            return -15;
        }
    }

    int minds(int sheet, int i, int leaf, int n) {
        if (!in(sheet, 0, 3) || !leafs(leaf) || !in(n, 0, 8) || leaf + n > now.leaves.size()) {
            return -1;
        }
        return host(() -> {
            byte[] row = (byte[]) sheets[sheet];
            if (row.length - n < i || i < 0) {
                throw new ArrayIndexOutOfBoundsException();
            }
            for (int j = 0; j < n; j++) {
                now.leaves.get(leaf + j).hold = Math.max(0, Math.min(99, row[i + j]));
            }
            return n;
        });
    }

    int sheet(int sheet, int sort, int n) {
        if (!in(sheet, 0, 3) || !in(sort, -1, 3) || sort >= 0 && n > 40) {
            return -1;
        }
        return host(() -> {
            sheets[sheet] = switch (sort) {
                case 0 -> new byte[n];
                case 1 -> new short[n];
                case 2 -> new int[n];
                case 3 -> new long[n];
                default -> null;
            };
            return 1;
        });
    }

    int put(int sheet, int i, int v) {
        if (!in(sheet, 0, 3)) {
            return -1;
        }
        return host(() -> {
            if (sheets[sheet] == null) {
                throw new NullPointerException();
            }
            if (sheets[sheet] instanceof byte[] b) {
                b[i] = (byte) v;
            } else if (sheets[sheet] instanceof short[] s) {
                s[i] = (short) v;
            } else if (sheets[sheet] instanceof int[] t) {
                t[i] = v;
            } else {
                ((long[]) sheets[sheet])[i] = v;
            }
            return 1;
        });
    }

    int item(int sheet, int sort, int i) {
        if (!in(sheet, 0, 3) || !in(sort, 0, 3)) {
            return -1;
        }
        return host(() -> switch (sort) {
            case 0 -> ((byte[]) sheets[sheet])[i];
            case 1 -> ((short[]) sheets[sheet])[i];
            case 2 -> ((int[]) sheets[sheet])[i];
            default -> (int) ((long[]) sheets[sheet])[i];
        });
    }

    /** How many items a sheet has, if it is of a sort: for those who look at all of them. */
    int items(int sheet, int sort) {
        Object row = sheets[sheet];
        boolean is = sort == 0 ? row instanceof byte[] : sort == 1 ? row instanceof short[] : sort == 2 ? row instanceof int[] : row instanceof long[];
        return is ? length(row) : 0;
    }

    int shelf(int shelf, int what, int n) {
        if (!in(shelf, 0, 3) || !in(what, 0, 2) || what == 0 && !leafs(n) || what == 1 && !in(n, 0, 3)) {
            return -1;
        }
        shelves[shelf] = what == 0 ? Integer.valueOf(n) : what == 1 ? sheets[n] : null;
        return 1;
    }

    private Object held(int shelf) {
        if (shelves[shelf] instanceof Integer n) {
            if (n >= now.leaves.size()) {
                return null;
            }
            Leaf l = now.leaves.get(n);
            l.n = n;
            l.trace = trace;
            return l;
        }
        return shelves[shelf];
    }

    int taken(int shelf, int as) {
        if (!in(shelf, 0, 3) || !in(as, 0, 5) && !in(as, 10, 13)) {
            return -1;
        }
        return host(() -> switch (as) {
            case 0 -> ((Leaf) held(shelf)).n;
            case 1 -> ((Red) held(shelf)).n;
            case 2 -> ((Yellow) held(shelf)).n;
            case 3 -> ((Scarlet) held(shelf)).n;
            case 4 -> ((Gold) held(shelf)).n;
            case 5 -> ((Evergreen) held(shelf)).n;
            case 10 -> ((byte[]) held(shelf)).length;
            case 11 -> ((short[]) held(shelf)).length;
            case 12 -> ((int[]) held(shelf)).length;
            default -> ((long[]) held(shelf)).length;
        });
    }

    int act(int shelf, int act, int x) {
        trace = new ArrayList<>();
        if (!in(shelf, 0, 3) || !in(act, 0, 3) || !(held(shelf) instanceof Leaf l)) {
            return 0;
        }
        return host(() -> act == 0 ? l.turns(x) : act == 1 ? l.names(x) : act == 2 ? l.parts(x) : l.lands(x));
    }

    int trace(int i) {
        return in(i, 0, Math.min(30, trace.size()) - 1) ? trace.get(i) : -3;
    }

    int many(int what) {
        switch (what) {
            case 0: return now.leaves.size();
            case 1: return now.hang();
            case 2: return now.gone();
            case 3: return (int) now.leaves.stream().filter(l -> l.fallen == 0).mapToInt(l -> l.bough).distinct().count();
            case 4: return rows.size();
            case 5: return tape.length();
            case 6: return Math.min(30, trace.size());
            default: return -1;
        }
    }

    int keep() {
        kept = now.copy();
        return 1;
    }

    int again() {
        if (kept == null) {
            return -3;
        }
        now = kept.copy();
        return now.leaves.size();
    }
}
