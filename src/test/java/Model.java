import java.math.BigInteger;
import java.util.ArrayList;
import java.util.Collections;
import java.util.Comparator;
import java.util.List;
import java.util.Objects;
import java.util.TreeMap;

/**
 * A second program by the same document, as plain as can be: rows as objects, empty cells as null, all sums as
 * BigInteger. Each method bears the name of the promise that it tells.
 */
public final class Model {
    private static final long NOTHING = Long.MIN_VALUE;

    private static final class Row {
        final List<BigInteger> cells = new ArrayList<>();
        final boolean[] masks = new boolean[8];

        Row twin() {
            Row twin = new Row();
            twin.cells.addAll(cells);
            System.arraycopy(masks, 0, twin.masks, 0, 8);
            return twin;
        }
    }

    private List<Row> rows = new ArrayList<>();
    private List<Integer> widths = new ArrayList<>();
    private final List<List<Row>> imageRows = new ArrayList<>(Collections.nCopies(2, null));
    private final List<List<Integer>> imageWidths = new ArrayList<>(Collections.nCopies(2, null));
    private int refused = 0;

    // ---- refusals

    private static void index(boolean fine) {
        if (!fine) {
            throw new IndexOutOfBoundsException();
        }
    }

    private static void argument(boolean fine) {
        if (!fine) {
            throw new IllegalArgumentException();
        }
    }

    private static void state(boolean fine) {
        if (!fine) {
            throw new IllegalStateException();
        }
    }

    private void act(boolean fine) {
        if (!fine) {
            refused++;
            throw new ArithmeticException();
        }
    }

    private void columns(int... columns) {
        for (int c : columns) {
            index(c >= 0 && c < widths.size());
        }
    }

    private static void masks(int... masks) {
        for (int m : masks) {
            index(m >= 0 && m < 8);
        }
    }

    private static boolean among(int v, int low, int high) {
        return v >= low && v <= high;
    }

    private static BigInteger big(long v) {
        return BigInteger.valueOf(v);
    }

    private static boolean fits(int width, BigInteger v) {
        return v == null || v.bitLength() < width;
    }

    private static long exact(BigInteger v) {
        return v.longValueExact();
    }

    private static long orNothing(BigInteger v) {
        return v == null ? NOTHING : v.longValueExact();
    }

    // ---- the table

    public int column(int width) {
        argument(among(width, 2, 63));
        state(widths.size() < 6);
        widths.add(width);
        for (Row r : rows) {
            r.cells.add(null);
        }
        return widths.size() - 1;
    }

    public int drop(int column) {
        columns(column);
        widths.remove(column);
        for (Row r : rows) {
            r.cells.remove(column);
        }
        return widths.size();
    }

    public int rows(int n) {
        argument(among(n, 1, 64));
        state(rows.size() + n <= 192);
        for (int i = 0; i < n; i++) {
            Row r = new Row();
            r.cells.addAll(Collections.nCopies(widths.size(), null));
            rows.add(r);
        }
        return rows.size();
    }

    public int set(int column, int row, long v) {
        columns(column);
        index(among(row, 0, rows.size() - 1));
        act(fits(widths.get(column), big(v)));
        return rows.get(row).cells.set(column, big(v)) == null ? 1 : 0;
    }

    public int clear(int column, int row) {
        columns(column);
        index(among(row, 0, rows.size() - 1));
        return rows.get(row).cells.set(column, null) == null ? 0 : 1;
    }

    public long get(int column, int row) {
        columns(column);
        index(among(row, 0, rows.size() - 1));
        return orNothing(rows.get(row).cells.get(column));
    }

    public int has(int what) {
        int numbers = 0;
        int emptyRows = 0;
        for (Row r : rows) {
            int full = r.cells.size() - Collections.frequency(r.cells, null);
            numbers += full;
            emptyRows += full == 0 ? 1 : 0;
        }
        int together = widths.stream().mapToInt(w -> w).sum();
        int[] all = {rows.size(), widths.size(), numbers, rows.size() * widths.size() - numbers, together, emptyRows,
            refused};
        return among(what, 0, 6) ? all[what] : -1;
    }

    public int width(int column, int what) {
        columns(column);
        argument(among(what, 0, 2));
        int least = 2;
        int numbers = 0;
        for (Row r : rows) {
            BigInteger v = r.cells.get(column);
            if (v != null) {
                numbers++;
                least = Math.max(least, v.bitLength() + 1);
            }
        }
        return what == 0 ? widths.get(column) : what == 1 ? numbers : least;
    }

    public long slice(int column, int bit, int word) {
        columns(column);
        index(among(bit, 0, widths.get(column) - 1) && among(word, 0, 2));
        BigInteger all = BigInteger.ZERO;
        for (int i = 0; i < rows.size(); i++) {
            BigInteger v = rows.get(i).cells.get(column);
            if (v != null && v.testBit(bit)) {
                all = all.setBit(i);
            }
        }
        return all.shiftRight(64 * word).longValue();
    }

    // ---- masks

    private int become(int to, List<Row> those) {
        for (Row r : rows) {
            r.masks[to] = false;
        }
        for (Row r : those) {
            r.masks[to] = true;
        }
        return those.size();
    }

    private List<Row> under(int mask) {
        List<Row> all = new ArrayList<>();
        for (Row r : rows) {
            if (r.masks[mask]) {
                all.add(r);
            }
        }
        return all;
    }

    private List<Row> numbered(int column, int mask) {
        List<Row> all = under(mask);
        all.removeIf(r -> r.cells.get(column) == null);
        return all;
    }

    private List<BigInteger> numbers(int column, int mask) {
        List<BigInteger> all = new ArrayList<>();
        for (Row r : numbered(column, mask)) {
            all.add(r.cells.get(column));
        }
        return all;
    }

    public int mask(int to, int how, int a, int b) {
        masks(to);
        argument(among(how, 0, 3));
        argument(how != 2 || (a >= 0 && a <= b && b <= rows.size()));
        argument(how != 3 || (a >= 1 && among(b, 0, a - 1)));
        List<Row> those = new ArrayList<>();
        for (int i = 0; i < rows.size(); i++) {
            if (how == 0 || (how == 2 && i >= a && i < b) || (how == 3 && i >= b && (i - b) % a == 0)) {
                those.add(rows.get(i));
            }
        }
        return become(to, those);
    }

    public int bits(int to, int word, long v) {
        masks(to);
        index(among(word, 0, 2));
        for (int i = 64 * word; i < rows.size() && i < 64 * word + 64; i++) {
            rows.get(i).masks[to] = (v >>> (i - 64 * word) & 1) == 1;
        }
        return under(to).size();
    }

    public int join(int to, int a, int b, int how) {
        masks(to, a, b);
        argument(among(how, 0, 3));
        List<Row> those = new ArrayList<>();
        for (Row r : rows) {
            boolean x = r.masks[a];
            boolean y = r.masks[b];
            boolean[] all = {x && y, x || y, x != y, x && !y};
            if (all[how]) {
                those.add(r);
            }
        }
        return become(to, those);
    }

    public int turn(int to, int a) {
        masks(to, a);
        List<Row> those = new ArrayList<>(rows);
        those.removeIf(r -> r.masks[a]);
        return become(to, those);
    }

    private static boolean stands(BigInteger x, int how, BigInteger v) {
        int c = x.compareTo(v);
        boolean[] all = {c < 0, c <= 0, c == 0, c != 0, c >= 0, c > 0};
        return all[how];
    }

    public int compare(int to, int column, int how, long v, int under) {
        columns(column);
        masks(to, under);
        argument(among(how, 0, 5));
        List<Row> those = numbered(column, under);
        those.removeIf(r -> !stands(r.cells.get(column), how, big(v)));
        return become(to, those);
    }

    public int against(int to, int column, int other, int how, int under) {
        columns(column, other);
        masks(to, under);
        argument(among(how, 0, 5));
        List<Row> those = numbered(column, under);
        those.retainAll(numbered(other, under));
        those.removeIf(r -> !stands(r.cells.get(column), how, r.cells.get(other)));
        return become(to, those);
    }

    public int empty(int to, int column, int under) {
        columns(column);
        masks(to, under);
        List<Row> those = under(under);
        those.removeIf(r -> r.cells.get(column) != null);
        return become(to, those);
    }

    public int top(int to, int column, int under, int k) {
        columns(column);
        masks(to, under);
        argument(k >= 0);
        List<Row> those = numbered(column, under);
        those.sort(Comparator.comparing((Row r) -> r.cells.get(column)).reversed());
        return become(to, those.subList(0, Math.min(k, those.size())));
    }

    public int field(int to, int column, int from, int many, int v, int under) {
        columns(column);
        masks(to, under);
        index(among(from, 0, widths.get(column) - 1));
        argument(among(many, 1, 16) && from + many <= widths.get(column));
        argument(v >= 0 && BigInteger.valueOf(v).bitLength() <= many);
        List<Row> those = numbered(column, under);
        BigInteger size = BigInteger.ONE.shiftLeft(many);
        those.removeIf(r -> !r.cells.get(column).shiftRight(from).mod(size).equals(big(v)));
        return become(to, those);
    }

    public int move(int to, int a, int n) {
        masks(to, a);
        argument(among(n, -192, 192));
        List<Row> those = new ArrayList<>();
        for (int i = 0; i < rows.size(); i++) {
            int from = i - n;
            if (among(from, 0, rows.size() - 1) && rows.get(from).masks[a]) {
                those.add(rows.get(i));
            }
        }
        return become(to, those);
    }

    public int firsts(int to, int under) {
        masks(to, under);
        List<Row> those = new ArrayList<>();
        List<List<BigInteger>> seen = new ArrayList<>();
        for (Row r : under(under)) {
            if (!seen.contains(r.cells)) {
                seen.add(r.cells);
                those.add(r);
            }
        }
        return become(to, those);
    }

    public int runs(int mask, int what) {
        masks(mask);
        argument(among(what, 0, 2));
        int many = 0;
        int longest = 0;
        int where = -1;
        for (int i = 0; i < rows.size(); i++) {
            boolean starts = rows.get(i).masks[mask] && (i == 0 || !rows.get(i - 1).masks[mask]);
            int end = i;
            while (starts && end < rows.size() && rows.get(end).masks[mask]) {
                end++;
            }
            many += starts ? 1 : 0;
            if (end - i > longest) {
                longest = end - i;
                where = i;
            }
        }
        return what == 0 ? many : what == 1 ? longest : where;
    }

    public int alike(int a, int b) {
        index(among(a, 0, rows.size() - 1) && among(b, 0, rows.size() - 1));
        return rows.get(a).cells.equals(rows.get(b).cells) ? 1 : 0;
    }

    public int row(int mask, int k) {
        masks(mask);
        List<Row> those = under(mask);
        return k == -1 ? those.size() : among(k, 0, those.size() - 1) ? place(those.get(k)) : -1;
    }

    private int place(Row r) {
        for (int i = 0; i < rows.size(); i++) {
            if (rows.get(i) == r) {
                return i;
            }
        }
        throw new AssertionError();
    }

    public long word(int mask, int word) {
        masks(mask);
        index(among(word, 0, 2));
        BigInteger all = BigInteger.ZERO;
        for (int i = 0; i < rows.size(); i++) {
            all = rows.get(i).masks[mask] ? all.setBit(i) : all;
        }
        return all.shiftRight(64 * word).longValue();
    }

    // ---- numbers under a mask

    private static BigInteger total(List<BigInteger> all) {
        return all.stream().reduce(BigInteger.ZERO, BigInteger::add);
    }

    private List<BigInteger> asked(int column, int under) {
        columns(column);
        masks(under);
        return numbers(column, under);
    }

    public int count(int column, int under) {
        return asked(column, under).size();
    }

    public long sum(int column, int under) {
        return exact(total(asked(column, under)));
    }

    public long mean(int column, int under, int what) {
        List<BigInteger> all = asked(column, under);
        argument(among(what, 0, 1));
        state(!all.isEmpty());
        BigInteger left = total(all).mod(big(all.size()));
        return exact(what == 1 ? left : total(all).subtract(left).divide(big(all.size())));
    }

    public long kth(int column, int under, int k) {
        List<BigInteger> all = asked(column, under);
        Collections.sort(all);
        int i = k >= 0 ? k : all.size() + k;
        return among(i, 0, all.size() - 1) ? exact(all.get(i)) : NOTHING;
    }

    public long share(int column, int under, int k, int n) {
        List<BigInteger> all = asked(column, under);
        argument(among(n, 1, 1000) && among(k, 0, n));
        Collections.sort(all);
        for (BigInteger v : all) {
            long noMore = all.stream().filter(x -> x.compareTo(v) <= 0).count();
            if (noMore * n >= (long) k * all.size()) {
                return exact(v);
            }
        }
        return NOTHING;
    }

    public int upset(int column, int under) {
        List<BigInteger> all = asked(column, under);
        int many = 0;
        for (int i = 0; i < all.size(); i++) {
            for (int j = i + 1; j < all.size(); j++) {
                many += all.get(i).compareTo(all.get(j)) > 0 ? 1 : 0;
            }
        }
        return many;
    }

    public int rank(int column, int under, long v, int what) {
        List<BigInteger> all = asked(column, under);
        argument(among(what, 0, 2));
        return (int) all.stream().filter(x -> x.compareTo(big(v)) == what - 1).count();
    }

    public long unlike(int column, int under, int what) {
        List<BigInteger> all = asked(column, under);
        argument(among(what, 0, 2));
        TreeMap<BigInteger, Integer> often = new TreeMap<>();
        for (BigInteger v : all) {
            often.merge(v, 1, Integer::sum);
        }
        int most = often.values().stream().mapToInt(n -> n).max().orElse(0);
        for (BigInteger v : often.keySet()) {
            if (what == 1 && often.get(v) == most) {
                return exact(v);
            }
        }
        return what == 0 ? often.size() : what == 1 ? NOTHING : most;
    }

    public int ones(int column, int bit, int under) {
        List<BigInteger> all = asked(column, under);
        index(among(bit, 0, widths.get(column) - 1));
        return (int) all.stream().filter(v -> v.testBit(bit)).count();
    }

    public int where(int column, int under, long v) {
        columns(column);
        masks(under);
        for (Row r : numbered(column, under)) {
            if (r.cells.get(column).equals(big(v))) {
                return place(r);
            }
        }
        return -1;
    }

    public long dot(int column, int other, int under) {
        columns(column, other);
        masks(under);
        BigInteger sum = BigInteger.ZERO;
        for (Row r : numbered(column, under)) {
            BigInteger y = r.cells.get(other);
            sum = y == null ? sum : sum.add(y.multiply(r.cells.get(column)));
        }
        return exact(sum);
    }

    public long steps(int column, int under) {
        List<BigInteger> all = asked(column, under);
        BigInteger sum = BigInteger.ZERO;
        for (int i = 1; i < all.size(); i++) {
            sum = sum.add(all.get(i).subtract(all.get(i - 1)).abs());
        }
        return exact(sum);
    }

    public long upTo(int column, int row, int under) {
        columns(column);
        masks(under);
        index(among(row, 0, rows.size() - 1));
        BigInteger sum = BigInteger.ZERO;
        for (Row r : numbered(column, under)) {
            sum = place(r) <= row ? sum.add(r.cells.get(column)) : sum;
        }
        return exact(sum);
    }

    public long fold(int column, int under, int how) {
        List<BigInteger> all = asked(column, under);
        argument(among(how, 0, 2));
        BigInteger folded = big(how == 0 ? -1 : 0);
        for (BigInteger v : all) {
            folded = how == 0 ? folded.and(v) : how == 1 ? folded.or(v) : folded.xor(v);
        }
        return exact(folded);
    }

    public long spread(int column, int under) {
        List<BigInteger> all = asked(column, under);
        BigInteger squares = BigInteger.ZERO;
        for (BigInteger v : all) {
            squares = squares.add(v.multiply(v));
        }
        return exact(squares.multiply(big(all.size())).subtract(total(all).pow(2)));
    }

    public long nearest(int column, int under, long v) {
        List<BigInteger> all = asked(column, under);
        Collections.sort(all);
        return orNothing(all.stream().min(Comparator.comparing(x -> x.subtract(big(v)).abs())).orElse(null));
    }

    public int box(int column, int under, long low, long step, int k) {
        List<BigInteger> all = asked(column, under);
        argument(step >= 1 && k >= 0);
        BigInteger from = big(low).add(big(step).multiply(big(k)));
        BigInteger end = from.add(big(step));
        return (int) all.stream().filter(x -> x.compareTo(from) >= 0 && x.compareTo(end) < 0).count();
    }

    // ---- acts on numbers

    private interface Change {
        BigInteger of(Row r);
    }

    /** All or none: how many cells are others then. */
    private int change(int column, List<Row> those, Change change) {
        List<BigInteger> coming = new ArrayList<>();
        boolean fine = true;
        for (Row r : those) {
            BigInteger v = change.of(r);
            fine = fine && fits(widths.get(column), v);
            coming.add(v);
        }
        act(fine);
        int others = 0;
        for (int i = 0; i < those.size(); i++) {
            BigInteger was = those.get(i).cells.set(column, coming.get(i));
            others += Objects.equals(was, coming.get(i)) ? 0 : 1;
        }
        return others;
    }

    private List<Row> both(int column, int other, int under) {
        List<Row> those = numbered(column, under);
        those.removeIf(r -> r.cells.get(other) == null);
        return those;
    }

    public int add(int column, long v, int under) {
        List<BigInteger> all = asked(column, under);
        change(column, numbered(column, under), r -> r.cells.get(column).add(big(v)));
        return all.size();
    }

    public int plus(int column, int other, boolean less, int under) {
        columns(column, other);
        masks(under);
        List<Row> those = both(column, other, under);
        change(column, those, r -> less ? r.cells.get(column).subtract(r.cells.get(other))
                : r.cells.get(column).add(r.cells.get(other)));
        return those.size();
    }

    public int scale(int column, int n, int under) {
        List<BigInteger> all = asked(column, under);
        argument(among(n, -9, 9));
        change(column, numbered(column, under), r -> r.cells.get(column).multiply(big(n)));
        return all.size();
    }

    public int shift(int column, int n, int under) {
        List<BigInteger> all = asked(column, under);
        argument(among(n, 1, 62) || among(n, -62, -1));
        change(column, numbered(column, under), r -> r.cells.get(column).shiftLeft(n));
        return all.size();
    }

    public int hold(int column, long low, long high, int under) {
        columns(column);
        masks(under);
        argument(low <= high);
        act(fits(widths.get(column), big(low)) && fits(widths.get(column), big(high)));
        return change(column, numbered(column, under), r -> r.cells.get(column).max(big(low)).min(big(high)));
    }

    public int fill(int column, long v, int under) {
        columns(column);
        masks(under);
        act(fits(widths.get(column), big(v)));
        int numbers = numbered(column, under).size();
        change(column, under(under), r -> big(v));
        return under(under).size() - numbers;
    }

    public int copy(int column, int from, int under) {
        columns(column, from);
        masks(under);
        return change(column, under(under), r -> r.cells.get(from));
    }

    public int pick(int column, int other, boolean greater, int under) {
        columns(column, other);
        masks(under);
        return change(column, both(column, other, under), r -> greater
                ? r.cells.get(column).max(r.cells.get(other)) : r.cells.get(column).min(r.cells.get(other)));
    }

    public int wipe(int column, int under) {
        columns(column);
        masks(under);
        return change(column, under(under), r -> null);
    }

    public int widen(int column, int width) {
        columns(column);
        argument(among(width, 2, 63));
        boolean fine = true;
        for (Row r : rows) {
            fine = fine && fits(width, r.cells.get(column));
        }
        act(fine);
        return widths.set(column, width);
    }

    // ---- acts on rows

    private int arrange(List<Row> order) {
        int elsewhere = 0;
        for (int i = 0; i < order.size(); i++) {
            elsewhere += rows.get(i) == order.get(i) ? 0 : 1;
        }
        rows = order;
        return elsewhere;
    }

    public int remove(int mask) {
        masks(mask);
        rows.removeIf(r -> r.masks[mask]);
        return rows.size();
    }

    public int first(int mask) {
        masks(mask);
        List<Row> order = under(mask);
        for (Row r : rows) {
            if (!r.masks[mask]) {
                order.add(r);
            }
        }
        return arrange(order);
    }

    public int sort(int column, boolean falling) {
        columns(column);
        Comparator<BigInteger> rising = Comparator.naturalOrder();
        Comparator<BigInteger> told = Comparator.nullsLast(falling ? rising.reversed() : rising);
        List<Row> order = new ArrayList<>(rows);
        order.sort(Comparator.comparing(r -> r.cells.get(column), told));
        return arrange(order);
    }

    public int reverse() {
        Collections.reverse(rows);
        return rows.size();
    }

    public int swap(int a, int b) {
        columns(a, b);
        Collections.swap(widths, a, b);
        for (Row r : rows) {
            Collections.swap(r.cells, a, b);
        }
        return widths.get(a);
    }

    private static List<Row> twins(List<Row> all) {
        List<Row> twins = new ArrayList<>();
        for (Row r : all) {
            twins.add(r.twin());
        }
        return twins;
    }

    public int keep(int k) {
        index(among(k, 0, 1));
        imageRows.set(k, twins(rows));
        imageWidths.set(k, new ArrayList<>(widths));
        return rows.size();
    }

    public int back(int k) {
        index(among(k, 0, 1));
        state(imageRows.get(k) != null);
        rows = twins(imageRows.get(k));
        widths = new ArrayList<>(imageWidths.get(k));
        return rows.size();
    }
}
