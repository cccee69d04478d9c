import java.math.BigInteger;
import java.util.ArrayDeque;
import java.util.ArrayList;
import java.util.Arrays;
import java.util.Deque;
import java.util.List;
import java.util.TreeSet;
import java.util.regex.Matcher;
import java.util.regex.Pattern;

/** The document word by word, with no thought of speed: every answer is found anew from its definition. */
final class PlainCube {
    static final int NONE = -1, UNKNOWN = -2, OUTSIDE = -3, NOT = -4, FULL = -5,
            NULL = -11, INDEX = -12, SIZE = -13, OVER = -14;
    private static final Pattern TOKEN = Pattern.compile("[a-z]+|[0-9]+|[^ ]", Pattern.DOTALL);

    /** An entry: its values and its measure. */
    record Entry(List<Integer> values, int measure) { }

    /** What can be kept, undone, drafted: nothing in it is ever changed. */
    record State(List<Integer> sizes, List<Entry> entries, int support) {
        State with(Entry entry) {
            List<Entry> longer = new ArrayList<>(entries);
            longer.add(entry);
            return new State(sizes, longer, support);
        }

        State without(int entry) {
            List<Entry> shorter = new ArrayList<>(entries);
            shorter.remove(entry);
            return new State(sizes, shorter, support);
        }

        State withSupport(int s) {
            return new State(sizes, entries, s);
        }

        int dimensions() {
            return sizes.size();
        }
    }

    private State now = new State(List.of(4, 4), List.of(), 1);
    private final Deque<State> past = new ArrayDeque<>();
    private final State[] keeps = new State[2];
    private final StringBuilder text = new StringBuilder();
    private State drafted;
    private int clauses;
    private final long[][] rows = new long[3][];
    private long asked = 0;

    // ---- codes and cells

    private static List<Integer> figures(int code, int dimensions) {
        List<Integer> figures = new ArrayList<>();
        int rest = code;
        for (int i = 0; i < dimensions; i++) {
            figures.add(0, rest % 7);
            rest /= 7;
        }
        return figures;
    }

    private static int codes(State state) {
        int codes = 1;
        for (int i = 0; i < state.dimensions(); i++) {
            codes *= 7;
        }
        return codes;
    }

    private static boolean isCell(State state, int code) {
        if (code < 0 || code >= codes(state)) {
            return false;
        }
        List<Integer> figures = figures(code, state.dimensions());
        for (int i = 0; i < figures.size(); i++) {
            if (figures.get(i) > state.sizes().get(i)) {
                return false;
            }
        }
        return true;
    }

    private static boolean isWhole(State state, int code) {
        return isCell(state, code) && !figures(code, state.dimensions()).contains(0);
    }

    private static List<Integer> valuesOf(State state, int code) {
        return figures(code, state.dimensions()).stream().map(figure -> figure - 1).toList();
    }

    private static List<Entry> cover(State state, int code) {
        List<Integer> figures = figures(code, state.dimensions());
        List<Entry> cover = new ArrayList<>();
        for (Entry entry : state.entries()) {
            boolean in = true;
            for (int i = 0; i < figures.size(); i++) {
                in &= figures.get(i) == 0 || figures.get(i) - 1 == entry.values().get(i);
            }
            if (in) {
                cover.add(entry);
            }
        }
        return cover;
    }

    private static boolean isClosed(State state, int code) {
        List<Integer> figures = figures(code, state.dimensions());
        List<Entry> cover = cover(state, code);
        if (cover.isEmpty()) {
            return false;
        }
        for (int i = 0; i < figures.size(); i++) {
            int dimension = i;
            if (figures.get(i) == 0 && cover.stream().map(e -> e.values().get(dimension)).distinct().count() == 1) {
                return false;
            }
        }
        return true;
    }

    private static TreeSet<Integer> cube(State state) {
        TreeSet<Integer> cube = new TreeSet<>();
        for (int code = 0; code < codes(state); code++) {
            if (isCell(state, code) && cover(state, code).size() >= state.support() && isClosed(state, code)) {
                cube.add(code);
            }
        }
        return cube;
    }

    // ---- what is told

    int write(int letter) {
        if (letter < 0 || letter > 255) {
            return OUTSIDE;
        }
        if (text.length() == 200) {
            return FULL;
        }
        text.append((char) letter);
        return text.length();
    }

    int erase() {
        int had = text.length();
        text.setLength(0);
        return had;
    }

    int fault() {
        List<String> tokens = new ArrayList<>();
        List<Integer> places = new ArrayList<>();
        Matcher matcher = TOKEN.matcher(text);
        while (matcher.find()) {
            tokens.add(matcher.group());
            places.add(matcher.start());
        }
        places.add(text.length());
        int bad = firstBad(tokens);
        return bad == NONE ? NONE : places.get(bad);
    }

    private static boolean isNumber(List<String> tokens, int at, int least, int most) {
        return at < tokens.size() && tokens.get(at).matches("[0-9]{1,2}")
                && Integer.parseInt(tokens.get(at)) >= least && Integer.parseInt(tokens.get(at)) <= most;
    }

    /** The number of the first token that cannot stand there, or how many tokens there are, or NONE. */
    private int firstBad(List<String> tokens) {
        drafted = now;
        clauses = 0;
        int at = 0;
        while (true) {
            String word = at < tokens.size() ? tokens.get(at) : "";
            List<Integer> numbers = new ArrayList<>();
            List<Integer> most = new ArrayList<>();
            int least = word.equals("row") ? 0 : 1;
            if (word.equals("table")) {
                most.addAll(List.of(6, 6, 6, 6));
            } else if (word.equals("support")) {
                most.add(9);
            } else if (word.equals("row") && drafted.entries().size() < 40) {
                drafted.sizes().forEach(size -> most.add(size - 1));
                most.add(99);
            } else {
                return at;
            }
            at++;
            while (numbers.size() < most.size() && isNumber(tokens, at, least, most.get(numbers.size()))) {
                numbers.add(Integer.parseInt(tokens.get(at)));
                at++;
            }
            if (numbers.size() < (word.equals("table") ? 1 : most.size())) {
                return at;
            }
            apply(word, numbers);
            clauses++;
            if (at == tokens.size()) {
                return NONE;
            }
            if (!tokens.get(at).equals(";") || clauses == 24) {
                return at;
            }
            at++;
        }
    }

    private void apply(String word, List<Integer> numbers) {
        int last = numbers.get(numbers.size() - 1);
        if (word.equals("table")) {
            drafted = new State(numbers, List.of(), 1);
        } else if (word.equals("support")) {
            drafted = drafted.withSupport(last);
        } else {
            drafted = drafted.with(new Entry(numbers.subList(0, numbers.size() - 1), last));
        }
    }

    int read() {
        if (fault() != NONE) {
            return NOT;
        }
        now = drafted;
        past.clear();
        Arrays.fill(keeps, null);
        text.setLength(0);
        return clauses;
    }

    // ---- entries

    private void change(State next) {
        past.addLast(now);
        if (past.size() > 8) {
            past.removeFirst();
        }
        now = next;
    }

    int add(int code, int measure) {
        if (!isWhole(now, code) || measure < -99 || measure > 99) {
            return OUTSIDE;
        }
        if (now.entries().size() == 40) {
            return FULL;
        }
        change(now.with(new Entry(valuesOf(now, code), measure)));
        return now.entries().size();
    }

    private boolean hasEntry(int entry) {
        return entry >= 0 && entry < now.entries().size();
    }

    int remove(int entry) {
        if (!hasEntry(entry)) {
            return UNKNOWN;
        }
        change(now.without(entry));
        return now.entries().size();
    }

    int support(int s) {
        if (s < 1 || s > 9) {
            return OUTSIDE;
        }
        int was = now.support();
        if (was == s) {
            return NOT;
        }
        change(now.withSupport(s));
        return was;
    }

    int undo() {
        if (past.isEmpty()) {
            return NOT;
        }
        now = past.removeLast();
        return past.size();
    }

    int keep(int k) {
        if (k != 0 && k != 1) {
            return UNKNOWN;
        }
        keeps[k] = now;
        return now.entries().size();
    }

    int back(int k) {
        if (k != 0 && k != 1) {
            return UNKNOWN;
        }
        if (keeps[k] == null) {
            return NOT;
        }
        now = keeps[k];
        past.clear();
        return now.entries().size();
    }

    int entry(int entry, int what) {
        if (!hasEntry(entry)) {
            return UNKNOWN;
        }
        if (what != 0 && what != 1) {
            return OUTSIDE;
        }
        Entry one = now.entries().get(entry);
        if (what == 1) {
            return one.measure() + 1000;
        }
        int code = 0;
        for (int value : one.values()) {
            code = code * 7 + value + 1;
        }
        return code;
    }

    // ---- cells

    int cell(int code, int what) {
        if (!isCell(now, code) || what < 0 || what > 3) {
            return OUTSIDE;
        }
        List<Entry> cover = cover(now, code);
        int[] measures = cover.stream().mapToInt(Entry::measure).sorted().toArray();
        if (what == 0) {
            return cover.size();
        }
        if (what == 1) {
            return 10000 + Arrays.stream(measures).sum();
        }
        if (cover.isEmpty()) {
            return NONE;
        }
        return 10000 + (what == 2 ? measures[0] : measures[measures.length - 1]);
    }

    int closure(int code) {
        if (!isCell(now, code)) {
            return OUTSIDE;
        }
        List<Entry> cover = cover(now, code);
        for (int other = 0; other < codes(now); other++) {
            if (isCell(now, other) && isClosed(now, other) && sameEntries(cover, cover(now, other))) {
                return other;
            }
        }
        return NONE;
    }

    /** Two entries may be alike, so it is asked whether they are the same ones. */
    private static boolean sameEntries(List<Entry> some, List<Entry> others) {
        if (some.size() != others.size()) {
            return false;
        }
        for (int i = 0; i < some.size(); i++) {
            if (some.get(i) != others.get(i)) {
                return false;
            }
        }
        return true;
    }

    int kept(int k) {
        if (k < 0) {
            return OUTSIDE;
        }
        List<Integer> cube = new ArrayList<>(cube(now));
        return k < cube.size() ? cube.get(k) : NONE;
    }

    int ask(int code, int what) {
        if (!isCell(now, code) || what < 0 || what > 1) {
            return OUTSIDE;
        }
        int closure = closure(code);
        return closure != NONE && cube(now).contains(closure) ? cell(closure, what) : NONE;
    }

    // ---- parting

    private int work;
    private int visits;

    private static List<List<Integer>> orders(int dimensions) {
        List<List<Integer>> orders = new ArrayList<>();
        orders.add(List.of());
        for (int i = 0; i < dimensions; i++) {
            List<List<Integer>> longer = new ArrayList<>();
            for (List<Integer> order : orders) {
                for (int dimension = 0; dimension < dimensions; dimension++) {
                    if (!order.contains(dimension)) {
                        List<Integer> next = new ArrayList<>(order);
                        next.add(dimension);
                        longer.add(next);
                    }
                }
            }
            orders = longer;
        }
        return orders;
    }

    private static int number(List<Integer> order) {
        int number = 0;
        for (int dimension : order) {
            number = number * 10 + dimension;
        }
        return number;
    }

    private void partAll(List<Integer> order) {
        work = 0;
        visits = 0;
        goOn(now.entries(), 0, order);
    }

    private void goOn(List<Entry> some, int p, List<Integer> order) {
        for (int q = p; q < order.size(); q++) {
            work += some.size();
            int dimension = order.get(q);
            for (int value = 0; value < now.sizes().get(dimension); value++) {
                int wanted = value;
                List<Entry> those = some.stream().filter(e -> e.values().get(dimension) == wanted).toList();
                if (those.size() >= now.support()) {
                    visits++;
                    goOn(those, q + 1, order);
                }
            }
        }
    }

    int part(int order, int what) {
        if (what < 0 || what > 1) {
            return OUTSIDE;
        }
        for (List<Integer> one : orders(now.dimensions())) {
            if (number(one) == order) {
                partAll(one);
                return what == 0 ? work : visits;
            }
        }
        return OUTSIDE;
    }

    int best(int what) {
        if (what < 0 || what > 1) {
            return OUTSIDE;
        }
        int best = NONE;
        int least = 0;
        for (List<Integer> one : orders(now.dimensions())) {
            partAll(one);
            if (best == NONE || work < least || work == least && number(one) < best) {
                best = number(one);
                least = work;
            }
        }
        return what == 0 ? best : least;
    }

    // ---- foretold

    int more(int code, int what) {
        if (!isWhole(now, code) || what < 0 || what > 1) {
            return OUTSIDE;
        }
        if (now.entries().size() == 40) {
            return FULL;
        }
        TreeSet<Integer> then = cube(now.with(new Entry(valuesOf(now, code), 0)));
        if (what == 0) {
            return then.size();
        }
        then.removeAll(cube(now));
        return then.size();
    }

    int less(int entry, int what) {
        if (!hasEntry(entry)) {
            return UNKNOWN;
        }
        if (what < 0 || what > 1) {
            return OUTSIDE;
        }
        TreeSet<Integer> then = cube(now.without(entry));
        if (what == 0) {
            return then.size();
        }
        TreeSet<Integer> lost = cube(now);
        lost.removeAll(then);
        return lost.size();
    }

    int cap(int k) {
        if (k < 0 || k > 2400) {
            return OUTSIDE;
        }
        int s = 1;
        while (cube(now.withSupport(s)).size() > k) {
            s++;
        }
        return s;
    }

    private static boolean sameIn(Entry a, Entry b, int set) {
        for (int i = 0; i < a.values().size(); i++) {
            if ((set >> i & 1) == 1 && !a.values().get(i).equals(b.values().get(i))) {
                return false;
            }
        }
        return true;
    }

    int key() {
        for (int many = 0; many <= now.dimensions(); many++) {
            for (int set = 0; set < 1 << now.dimensions(); set++) {
                if (Integer.bitCount(set) == many && tellsApart(set)) {
                    return set;
                }
            }
        }
        return NONE;
    }

    private boolean tellsApart(int set) {
        for (int i = 0; i < now.entries().size(); i++) {
            for (int j = 0; j < i; j++) {
                if (sameIn(now.entries().get(i), now.entries().get(j), set)) {
                    return false;
                }
            }
        }
        return true;
    }

    int rule(int set, int dimension) {
        if (set < 0 || set >= 1 << now.dimensions() || dimension < 0 || dimension >= now.dimensions()) {
            return OUTSIDE;
        }
        for (Entry a : now.entries()) {
            for (Entry b : now.entries()) {
                if (sameIn(a, b, set) && !sameIn(a, b, 1 << dimension)) {
                    return 0;
                }
            }
        }
        return 1;
    }

    // ---- rows

    private static boolean isRow(int row) {
        return row >= 0 && row <= 2;
    }

    private static boolean fits(BigInteger number) {
        return number.bitLength() <= 63;
    }

    int row(int row, int n) {
        if (!isRow(row)) {
            return UNKNOWN;
        }
        if (n > 12) {
            return OUTSIDE;
        }
        if (n < 0) {
            return SIZE;
        }
        rows[row] = new long[n];
        return n;
    }

    private int machine(int row, int i) {
        if (rows[row] == null) {
            return NULL;
        }
        return i < 0 || i >= rows[row].length ? INDEX : 1;
    }

    int set(int row, int i, int v) {
        if (!isRow(row)) {
            return UNKNOWN;
        }
        if (machine(row, i) == 1) {
            rows[row][i] = v;
        }
        return machine(row, i);
    }

    int work(int row, int i, int way, int v) {
        if (!isRow(row)) {
            return UNKNOWN;
        }
        if (way < 0 || way > 2) {
            return OUTSIDE;
        }
        if (machine(row, i) != 1) {
            return machine(row, i);
        }
        BigInteger old = BigInteger.valueOf(rows[row][i]);
        BigInteger by = BigInteger.valueOf(v);
        BigInteger result = way == 0 ? old.add(by) : way == 1 ? old.subtract(by) : old.multiply(by);
        if (!fits(result)) {
            return OVER;
        }
        rows[row][i] = result.longValue();
        asked = rows[row][i];
        return 1;
    }

    int bits(int row, int i) {
        if (!isRow(row)) {
            return UNKNOWN;
        }
        if (machine(row, i) == 1) {
            asked = Long.toBinaryString(rows[row][i]).chars().filter(c -> c == '1').count();
        }
        return machine(row, i);
    }

    int sum(int row) {
        if (!isRow(row)) {
            return UNKNOWN;
        }
        if (rows[row] == null) {
            return NULL;
        }
        BigInteger all = BigInteger.ZERO;
        for (long place : rows[row]) {
            all = all.add(BigInteger.valueOf(place));
            if (!fits(all)) {
                return OVER;
            }
        }
        asked = all.longValue();
        return rows[row].length;
    }

    int load(int row, int i, int code) {
        if (!isRow(row)) {
            return UNKNOWN;
        }
        if (!isCell(now, code)) {
            return OUTSIDE;
        }
        if (machine(row, i) == 1) {
            rows[row][i] = cell(code, 1) - 10000;
        }
        return machine(row, i);
    }

    int drop(int row) {
        if (!isRow(row)) {
            return UNKNOWN;
        }
        if (rows[row] == null) {
            return NULL;
        }
        int had = rows[row].length;
        rows[row] = null;
        return had;
    }

    long asked() {
        return asked;
    }

    int count(int what) {
        switch (what) {
            case 0: return now.dimensions();
            case 1: return now.entries().size();
            case 2: return now.support();
            case 3: return cube(now).size();
            case 4:
                int cells = 0;
                for (int code = 0; code < codes(now); code++) {
                    if (isCell(now, code) && cover(now, code).size() >= now.support()) {
                        cells++;
                    }
                }
                return cells;
            case 5: return number(now.sizes());
            case 6: return Arrays.stream(rows).mapToInt(row -> row == null ? 0 : row.length).sum();
            case 7: return past.size();
            case 8: return text.length();
            default: return OUTSIDE;
        }
    }
}
