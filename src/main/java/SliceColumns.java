/**
 * A table of whole numbers in columns of told widths, asked and changed under masks of rows.
 * What each call promises stands in the document (DOC.md); the words in capitals are its terms.
 */
public final class SliceColumns {
    public static final int NONE = -1;
    public static final long NOTHING = Long.MIN_VALUE;

    private static final int MOST_COLUMNS = 6;
    private static final int MOST_ROWS = 192;
    private static final int MOST_NEW_ROWS = 64;
    private static final int LEAST_WIDTH = 2;
    private static final int MOST_WIDTH = 63;
    private static final int MASKS = 8;
    private static final int WORDS = 3;
    private static final int WORD_ROWS = 64;
    private static final int IMAGES = 2;
    private static final int MOST_FIELD_BITS = 16;
    private static final int MOST_PARTS = 1000;
    private static final int MOST_FACTOR = 9;
    private static final int MOST_SHIFT = 62;
    private static final int MOST_MOVE = MOST_ROWS;

    private static final long LEAST_NUMBER = -(1L << (MOST_WIDTH - 1));
    private static final long GREATEST_NUMBER = (1L << (MOST_WIDTH - 1)) - 1;
    /** Stands for any number that is no long or near to it: it FITS no WIDTH, and is not NOTHING. */
    private static final long TOO_GREAT = Long.MAX_VALUE;
    /** The greatest whole number whose square is a long. */
    private static final long GREATEST_ROOT = 3037000499L;

    private static final int BELOW = 0;
    private static final int NO_MORE = 1;
    private static final int JUST = 2;
    private static final int ANOTHER = 3;
    private static final int NO_LESS = 4;
    private static final int ABOVE = 5;

    private final Table table;
    private final Table[] images;
    private final Picked picked;
    private final Wide wide;
    /** The words of the MASK that a call makes: apart, since it may be made from itself. */
    private final long[] made;
    /** What a COLUMN would hold after an ACT: apart, since all comes or none. */
    private final long[] coming;
    private int refusedActs;

    public SliceColumns() {
        table = new Table();
        images = new Table[IMAGES];
        picked = new Picked();
        wide = new Wide();
        made = new long[WORDS];
        coming = new long[MOST_ROWS];
        refusedActs = 0;
    }

    // ---- the table

    public int column(int width) throws IllegalArgumentException, IllegalStateException {
        needWidth(width);
        needState(table.columnCount < MOST_COLUMNS);
        int added = table.columnCount;
        table.columnCount = added + 1;
        table.widths[added] = width;
        table.emptyCells(added, 0, MOST_ROWS);
        return added;
    }

    public int drop(int column) throws IndexOutOfBoundsException {
        needColumn(column);
        for (int c = column; c + 1 < table.columnCount; c++) {
            table.exchangeColumns(c, c + 1);
        }
        table.columnCount--;
        return table.columnCount;
    }

    public int rows(int n) throws IllegalArgumentException, IllegalStateException {
        needArgument(n >= 1 && n <= MOST_NEW_ROWS);
        needState(table.rowCount + n <= MOST_ROWS);
        int grown = table.rowCount + n;
        for (int c = 0; c < table.columnCount; c++) {
            table.emptyCells(c, table.rowCount, grown);
        }
        table.rowCount = grown;
        return grown;
    }

    public int set(int column, int row, long v) throws IndexOutOfBoundsException, ArithmeticException {
        needColumn(column);
        needRow(row);
        needFit(column, v);
        int wasEmpty = table.cells[column][row] == NOTHING ? 1 : 0;
        table.cells[column][row] = v;
        return wasEmpty;
    }

    public int clear(int column, int row) throws IndexOutOfBoundsException {
        needColumn(column);
        needRow(row);
        int hadNumber = table.cells[column][row] == NOTHING ? 0 : 1;
        table.cells[column][row] = NOTHING;
        return hadNumber;
    }

    public long get(int column, int row) throws IndexOutOfBoundsException {
        needColumn(column);
        needRow(row);
        return table.cells[column][row];
    }

    public int has(int what) {
        switch (what) {
            case 0:
                return table.rowCount;
            case 1:
                return table.columnCount;
            case 2:
                return table.allNumbers();
            case 3:
                return table.rowCount * table.columnCount - table.allNumbers();
            case 4:
                return table.allWidths();
            case 5:
                return table.emptyRows();
            case 6:
                return refusedActs;
            default:
                return NONE;
        }
    }

    public int width(int column, int what) throws IndexOutOfBoundsException, IllegalArgumentException {
        needColumn(column);
        needArgument(what >= 0 && what <= 2);
        if (what == 0) {
            return table.widths[column];
        }
        return what == 1 ? table.numbersOf(column) : table.leastWidth(column);
    }

    public long slice(int column, int bit, int word) throws IndexOutOfBoundsException {
        needColumn(column);
        needBit(column, bit);
        needWord(word);
        begin();
        for (int row = 0; row < table.rowCount; row++) {
            if (hasBit(table.cells[column][row], bit)) {
                include(row);
            }
        }
        return made[word];
    }

    // ---- masks

    public int mask(int to, int how, int a, int b) throws IndexOutOfBoundsException, IllegalArgumentException {
        needMask(to);
        needArgument(how >= 0 && how <= 3);
        needArgument(how != 2 || (a >= 0 && a <= b && b <= table.rowCount));
        needArgument(how != 3 || (a >= 1 && b >= 0 && b < a));
        begin();
        if (how == 0) {
            includeEach(1, 0, table.rowCount);
        } else if (how == 2) {
            includeEach(1, a, b);
        } else if (how == 3) {
            includeEach(a, b, table.rowCount);
        }
        return become(to);
    }

    public int bits(int to, int word, long v) throws IndexOutOfBoundsException {
        needMask(to);
        needWord(word);
        table.masks[to][word] = v & table.rowsOfWord(word);
        return table.maskCount(to);
    }

    public int join(int to, int a, int b, int how) throws IndexOutOfBoundsException, IllegalArgumentException {
        needMask(to);
        needMask(a);
        needMask(b);
        needArgument(how >= 0 && how <= 3);
        for (int w = 0; w < WORDS; w++) {
            made[w] = joined(table.masks[a][w], table.masks[b][w], how);
        }
        return become(to);
    }

    public int turn(int to, int a) throws IndexOutOfBoundsException {
        needMask(to);
        needMask(a);
        for (int w = 0; w < WORDS; w++) {
            made[w] = ~table.masks[a][w] & table.rowsOfWord(w);
        }
        return become(to);
    }

    public int compare(int to, int column, int how, long v, int under)
            throws IndexOutOfBoundsException, IllegalArgumentException {
        needMask(to);
        needColumn(column);
        needMask(under);
        needArgument(how >= BELOW && how <= ABOVE);
        begin();
        for (int row = 0; row < table.rowCount; row++) {
            if (table.isNumbered(column, row, under) && stands(table.cells[column][row], how, v)) {
                include(row);
            }
        }
        return become(to);
    }

    public int against(int to, int column, int other, int how, int under)
            throws IndexOutOfBoundsException, IllegalArgumentException {
        needMask(to);
        needColumn(column);
        needColumn(other);
        needMask(under);
        needArgument(how >= BELOW && how <= ABOVE);
        begin();
        for (int row = 0; row < table.rowCount; row++) {
            if (table.areBothNumbered(column, other, row, under)
                    && stands(table.cells[column][row], how, table.cells[other][row])) {
                include(row);
            }
        }
        return become(to);
    }

    public int empty(int to, int column, int under) throws IndexOutOfBoundsException {
        needMask(to);
        needColumn(column);
        needMask(under);
        begin();
        for (int row = 0; row < table.rowCount; row++) {
            if (table.isUnder(row, under) && table.cells[column][row] == NOTHING) {
                include(row);
            }
        }
        return become(to);
    }

    public int top(int to, int column, int under, int k) throws IndexOutOfBoundsException, IllegalArgumentException {
        needMask(to);
        needColumn(column);
        needMask(under);
        needArgument(k >= 0);
        gather(column, under);
        picked.putInOrder(true);
        begin();
        for (int i = 0; i < picked.many && i < k; i++) {
            include(picked.rowAt[i]);
        }
        return become(to);
    }

    public int field(int to, int column, int from, int many, int v, int under)
            throws IndexOutOfBoundsException, IllegalArgumentException {
        needMask(to);
        needColumn(column);
        needMask(under);
        needBit(column, from);
        needArgument(many >= 1 && many <= MOST_FIELD_BITS && many <= table.widths[column] - from);
        int all = (1 << many) - 1;
        needArgument(v >= 0 && v <= all);
        begin();
        for (int row = 0; row < table.rowCount; row++) {
            if (table.isNumbered(column, row, under) && ((table.cells[column][row] >> from) & all) == v) {
                include(row);
            }
        }
        return become(to);
    }

    public int move(int to, int a, int n) throws IndexOutOfBoundsException, IllegalArgumentException {
        needMask(to);
        needMask(a);
        needArgument(n >= -MOST_MOVE && n <= MOST_MOVE);
        begin();
        for (int row = 0; row < table.rowCount; row++) {
            if (table.isUnder(row, a)) {
                include(row + n);
            }
        }
        return become(to);
    }

    public int firsts(int to, int under) throws IndexOutOfBoundsException {
        needMask(to);
        needMask(under);
        begin();
        for (int row = 0; row < table.rowCount; row++) {
            if (table.isUnder(row, under) && !isLikeOneMade(row)) {
                include(row);
            }
        }
        return become(to);
    }

    public int runs(int mask, int what) throws IndexOutOfBoundsException, IllegalArgumentException {
        needMask(mask);
        needArgument(what >= 0 && what <= 2);
        int many = 0;
        int longest = 0;
        int firstOfLongest = NONE;
        int length = 0;
        for (int row = 0; row < table.rowCount; row++) {
            length = table.isUnder(row, mask) ? length + 1 : 0;
            if (length == 1) {
                many++;
            }
            if (length > longest) {
                longest = length;
                firstOfLongest = row - length + 1;
            }
        }
        if (what == 0) {
            return many;
        }
        return what == 1 ? longest : firstOfLongest;
    }

    public int alike(int a, int b) throws IndexOutOfBoundsException {
        needRow(a);
        needRow(b);
        return table.areAlike(a, b) ? 1 : 0;
    }

    public int row(int mask, int k) throws IndexOutOfBoundsException {
        needMask(mask);
        if (k == NONE) {
            return table.maskCount(mask);
        }
        int passed = 0;
        for (int row = 0; row < table.rowCount; row++) {
            if (table.isUnder(row, mask)) {
                if (passed == k) {
                    return row;
                }
                passed++;
            }
        }
        return NONE;
    }

    public long word(int mask, int word) throws IndexOutOfBoundsException {
        needMask(mask);
        needWord(word);
        return table.masks[mask][word];
    }

    // ---- under a mask: numbers of a column

    public int count(int column, int under) throws IndexOutOfBoundsException {
        needColumn(column);
        needMask(under);
        gather(column, under);
        return picked.many;
    }

    public long sum(int column, int under) throws IndexOutOfBoundsException, ArithmeticException {
        needColumn(column);
        needMask(under);
        return sumUpTo(column, under, table.rowCount);
    }

    public long mean(int column, int under, int what)
            throws IndexOutOfBoundsException, IllegalArgumentException, IllegalStateException {
        needColumn(column);
        needMask(under);
        needArgument(what == 0 || what == 1);
        gather(column, under);
        int many = picked.many;
        needState(many > 0);
        // Each number is divided by itself, for the SUM need not be a long; what is left is below many squared.
        long whole = 0;
        long left = 0;
        for (int i = 0; i < many; i++) {
            whole += Math.floorDiv(picked.numberAt[i], (long) many);
            left += Math.floorMod(picked.numberAt[i], (long) many);
        }
        return what == 0 ? whole + left / many : left % many;
    }

    public long kth(int column, int under, int k) throws IndexOutOfBoundsException {
        needColumn(column);
        needMask(under);
        gather(column, under);
        picked.putInOrder(false);
        return picked.numberOrNothing(k < 0 ? picked.many + k : k);
    }

    public long share(int column, int under, int k, int n) throws IndexOutOfBoundsException, IllegalArgumentException {
        needColumn(column);
        needMask(under);
        needArgument(n >= 1 && n <= MOST_PARTS);
        needArgument(k >= 0 && k <= n);
        gather(column, under);
        picked.putInOrder(false);
        int needed = (k * picked.many + n - 1) / n;
        return picked.numberOrNothing(Math.max(needed - 1, 0));
    }

    public int upset(int column, int under) throws IndexOutOfBoundsException {
        needColumn(column);
        needMask(under);
        gather(column, under);
        return picked.putInOrder(false);
    }

    public int rank(int column, int under, long v, int what)
            throws IndexOutOfBoundsException, IllegalArgumentException {
        needColumn(column);
        needMask(under);
        needArgument(what >= 0 && what <= 2);
        gather(column, under);
        if (what == 0) {
            return picked.howMany(BELOW, v);
        }
        return picked.howMany(what == 1 ? JUST : ABOVE, v);
    }

    public long unlike(int column, int under, int what) throws IndexOutOfBoundsException, IllegalArgumentException {
        needColumn(column);
        needMask(under);
        needArgument(what >= 0 && what <= 2);
        gather(column, under);
        picked.putInOrder(false);
        int many = 0;
        int most = 0;
        long mostOften = NOTHING;
        int often = 0;
        for (int i = 0; i < picked.many; i++) {
            boolean again = i > 0 && picked.numberAt[i] == picked.numberAt[i - 1];
            often = again ? often + 1 : 1;
            many += again ? 0 : 1;
            if (often > most) {
                most = often;
                mostOften = picked.numberAt[i];
            }
        }
        if (what == 0) {
            return many;
        }
        return what == 1 ? mostOften : most;
    }

    public int ones(int column, int bit, int under) throws IndexOutOfBoundsException {
        needColumn(column);
        needBit(column, bit);
        needMask(under);
        gather(column, under);
        int many = 0;
        for (int i = 0; i < picked.many; i++) {
            many += hasBit(picked.numberAt[i], bit) ? 1 : 0;
        }
        return many;
    }

    public int where(int column, int under, long v) throws IndexOutOfBoundsException {
        needColumn(column);
        needMask(under);
        for (int row = 0; row < table.rowCount; row++) {
            if (table.isNumbered(column, row, under) && table.cells[column][row] == v) {
                return row;
            }
        }
        return NONE;
    }

    public long dot(int column, int other, int under) throws IndexOutOfBoundsException, ArithmeticException {
        needColumn(column);
        needColumn(other);
        needMask(under);
        wide.restart();
        for (int row = 0; row < table.rowCount; row++) {
            if (table.areBothNumbered(column, other, row, under)) {
                wide.includeProduct(table.cells[column][row], table.cells[other][row]);
            }
        }
        return wide.exactLong();
    }

    public long steps(int column, int under) throws IndexOutOfBoundsException, ArithmeticException {
        needColumn(column);
        needMask(under);
        gather(column, under);
        wide.restart();
        for (int i = 1; i < picked.many; i++) {
            // Two numbers of 63 bits are never further apart than the greatest long.
            wide.include(Math.abs(picked.numberAt[i] - picked.numberAt[i - 1]));
        }
        return wide.exactLong();
    }

    public long upTo(int column, int row, int under) throws IndexOutOfBoundsException, ArithmeticException {
        needColumn(column);
        needRow(row);
        needMask(under);
        return sumUpTo(column, under, row + 1);
    }

    public long fold(int column, int under, int how) throws IndexOutOfBoundsException, IllegalArgumentException {
        needColumn(column);
        needMask(under);
        needArgument(how >= 0 && how <= 2);
        gather(column, under);
        long folded = how == 0 ? -1 : 0;
        for (int i = 0; i < picked.many; i++) {
            folded = joined(folded, picked.numberAt[i], how);
        }
        return folded;
    }

    public long spread(int column, int under) throws IndexOutOfBoundsException, ArithmeticException {
        needColumn(column);
        needMask(under);
        gather(column, under);
        int many = picked.many;
        if (many == 0) {
            return 0;
        }
        // The spread is the SUM of the squares of how far each couple is apart: it stays if the same is taken
        // off all numbers, and one couple whose square is no long makes it no long.
        long start = picked.numberAt[0];
        long total = 0;
        wide.restart();
        for (int i = 0; i < many; i++) {
            long apart = picked.numberAt[i] - start;
            needLong(Math.abs(apart) <= GREATEST_ROOT);
            total += apart;
            wide.includeProduct(apart * many, apart);
        }
        wide.includeProduct(total, -total);
        return wide.exactLong();
    }

    public long nearest(int column, int under, long v) throws IndexOutOfBoundsException {
        needColumn(column);
        needMask(under);
        gather(column, under);
        // A v beyond all numbers is as near to them, in order, as the outermost number: so no difference overflows.
        long aim = Math.max(LEAST_NUMBER, Math.min(GREATEST_NUMBER, v));
        long best = NOTHING;
        long bestApart = 0;
        for (int i = 0; i < picked.many; i++) {
            long number = picked.numberAt[i];
            long apart = Math.abs(number - aim);
            if (best == NOTHING || apart < bestApart || (apart == bestApart && number < best)) {
                best = number;
                bestApart = apart;
            }
        }
        return best;
    }

    public int box(int column, int under, long low, long step, int k)
            throws IndexOutOfBoundsException, IllegalArgumentException {
        needColumn(column);
        needMask(under);
        needArgument(step >= 1);
        needArgument(k >= 0);
        gather(column, under);
        wide.restart();
        wide.include(low);
        wide.includeProduct(step, k);
        // Both bounds are no less than low: one that is no long is above all numbers.
        if (!wide.isLong()) {
            return 0;
        }
        int many = picked.howMany(NO_LESS, wide.asLong());
        wide.include(step);
        return wide.isLong() ? many - picked.howMany(NO_LESS, wide.asLong()) : many;
    }

    // ---- acts on numbers of a column, under a mask

    public int add(int column, long v, int under) throws IndexOutOfBoundsException, ArithmeticException {
        needColumn(column);
        needMask(under);
        expectAsItIs(column);
        int many = 0;
        for (int row = 0; row < table.rowCount; row++) {
            if (table.isNumbered(column, row, under)) {
                coming[row] = sumOrTooGreat(table.cells[column][row], v);
                many++;
            }
        }
        come(column);
        return many;
    }

    public int plus(int column, int other, boolean less, int under)
            throws IndexOutOfBoundsException, ArithmeticException {
        needColumn(column);
        needColumn(other);
        needMask(under);
        expectAsItIs(column);
        int many = 0;
        for (int row = 0; row < table.rowCount; row++) {
            if (table.areBothNumbered(column, other, row, under)) {
                long number = table.cells[other][row];
                coming[row] = sumOrTooGreat(table.cells[column][row], less ? -number : number);
                many++;
            }
        }
        come(column);
        return many;
    }

    public int scale(int column, int n, int under)
            throws IndexOutOfBoundsException, IllegalArgumentException, ArithmeticException {
        needColumn(column);
        needMask(under);
        needArgument(n >= -MOST_FACTOR && n <= MOST_FACTOR);
        expectAsItIs(column);
        int many = 0;
        for (int row = 0; row < table.rowCount; row++) {
            if (table.isNumbered(column, row, under)) {
                coming[row] = productOrTooGreat(table.cells[column][row], n);
                many++;
            }
        }
        come(column);
        return many;
    }

    public int shift(int column, int n, int under)
            throws IndexOutOfBoundsException, IllegalArgumentException, ArithmeticException {
        needColumn(column);
        needMask(under);
        needArgument(n != 0 && n >= -MOST_SHIFT && n <= MOST_SHIFT);
        expectAsItIs(column);
        int many = 0;
        for (int row = 0; row < table.rowCount; row++) {
            if (table.isNumbered(column, row, under)) {
                coming[row] = shiftedOrTooGreat(table.cells[column][row], n);
                many++;
            }
        }
        come(column);
        return many;
    }

    public int hold(int column, long low, long high, int under)
            throws IndexOutOfBoundsException, IllegalArgumentException, ArithmeticException {
        needColumn(column);
        needMask(under);
        needArgument(low <= high);
        needFit(column, low);
        needFit(column, high);
        expectAsItIs(column);
        for (int row = 0; row < table.rowCount; row++) {
            if (table.isNumbered(column, row, under)) {
                coming[row] = Math.max(low, Math.min(high, table.cells[column][row]));
            }
        }
        return come(column);
    }

    public int fill(int column, long v, int under) throws IndexOutOfBoundsException, ArithmeticException {
        needColumn(column);
        needMask(under);
        needFit(column, v);
        int wereEmpty = 0;
        for (int row = 0; row < table.rowCount; row++) {
            if (table.isUnder(row, under)) {
                wereEmpty += table.cells[column][row] == NOTHING ? 1 : 0;
                table.cells[column][row] = v;
            }
        }
        return wereEmpty;
    }

    public int copy(int column, int from, int under) throws IndexOutOfBoundsException, ArithmeticException {
        needColumn(column);
        needColumn(from);
        needMask(under);
        expectAsItIs(column);
        for (int row = 0; row < table.rowCount; row++) {
            if (table.isUnder(row, under)) {
                coming[row] = table.cells[from][row];
            }
        }
        return come(column);
    }

    public int pick(int column, int other, boolean greater, int under)
            throws IndexOutOfBoundsException, ArithmeticException {
        needColumn(column);
        needColumn(other);
        needMask(under);
        expectAsItIs(column);
        for (int row = 0; row < table.rowCount; row++) {
            if (table.areBothNumbered(column, other, row, under)) {
                long own = table.cells[column][row];
                long others = table.cells[other][row];
                coming[row] = greater ? Math.max(own, others) : Math.min(own, others);
            }
        }
        return come(column);
    }

    public int wipe(int column, int under) throws IndexOutOfBoundsException {
        needColumn(column);
        needMask(under);
        int hadNumbers = 0;
        for (int row = 0; row < table.rowCount; row++) {
            if (table.isNumbered(column, row, under)) {
                table.cells[column][row] = NOTHING;
                hadNumbers++;
            }
        }
        return hadNumbers;
    }

    public int widen(int column, int width)
            throws IndexOutOfBoundsException, IllegalArgumentException, ArithmeticException {
        needColumn(column);
        needWidth(width);
        needAct(table.leastWidth(column) <= width);
        int was = table.widths[column];
        table.widths[column] = width;
        return was;
    }

    // ---- acts on rows: in all columns and masks

    public int remove(int mask) throws IndexOutOfBoundsException {
        needMask(mask);
        picked.restart();
        pickRows(mask, false);
        arrange();
        return table.rowCount;
    }

    public int first(int mask) throws IndexOutOfBoundsException {
        needMask(mask);
        picked.restart();
        pickRows(mask, true);
        pickRows(mask, false);
        return arrange();
    }

    public int sort(int column, boolean falling) throws IndexOutOfBoundsException {
        needColumn(column);
        picked.restart();
        for (int row = 0; row < table.rowCount; row++) {
            if (table.cells[column][row] != NOTHING) {
                picked.take(row, table.cells[column][row]);
            }
        }
        picked.putInOrder(falling);
        for (int row = 0; row < table.rowCount; row++) {
            if (table.cells[column][row] == NOTHING) {
                picked.take(row, NOTHING);
            }
        }
        return arrange();
    }

    public int reverse() {
        picked.restart();
        for (int row = table.rowCount - 1; row >= 0; row--) {
            picked.take(row, NOTHING);
        }
        arrange();
        return table.rowCount;
    }

    public int swap(int a, int b) throws IndexOutOfBoundsException {
        needColumn(a);
        needColumn(b);
        table.exchangeColumns(a, b);
        return table.widths[a];
    }

    public int keep(int k) throws IndexOutOfBoundsException {
        needImage(k);
        if (images[k] == null) {
            images[k] = new Table();
        }
        images[k].becomeLike(table);
        return table.rowCount;
    }

    public int back(int k) throws IndexOutOfBoundsException, IllegalStateException {
        needImage(k);
        Table image = images[k];
        if (image == null) {
            throw new IllegalStateException("the image was not kept");
        }
        table.becomeLike(image);
        return table.rowCount;
    }

    // ---- refusals

    private void needColumn(int column) {
        if (column < 0 || column >= table.columnCount) {
            throw new IndexOutOfBoundsException("no such column");
        }
    }

    private void needRow(int row) {
        if (row < 0 || row >= table.rowCount) {
            throw new IndexOutOfBoundsException("no such row");
        }
    }

    private void needBit(int column, int bit) {
        if (bit < 0 || bit >= table.widths[column]) {
            throw new IndexOutOfBoundsException("no such bit");
        }
    }

    private static void needMask(int mask) {
        if (mask < 0 || mask >= MASKS) {
            throw new IndexOutOfBoundsException("no such mask");
        }
    }

    private static void needWord(int word) {
        if (word < 0 || word >= WORDS) {
            throw new IndexOutOfBoundsException("no such word");
        }
    }

    private static void needImage(int k) {
        if (k < 0 || k >= IMAGES) {
            throw new IndexOutOfBoundsException("no such image");
        }
    }

    private static void needWidth(int width) {
        needArgument(width >= LEAST_WIDTH && width <= MOST_WIDTH);
    }

    private static void needArgument(boolean can) {
        if (!can) {
            throw new IllegalArgumentException("a number that can't be");
        }
    }

    private static void needState(boolean ready) {
        if (!ready) {
            throw new IllegalStateException("not in this state");
        }
    }

    private static void needLong(boolean isLong) {
        if (!isLong) {
            throw new ArithmeticException("the answer is no long");
        }
    }

    private void needFit(int column, long v) {
        needAct(fits(table.widths[column], v));
    }

    /** An ACT that is kept from being done leaves this one trace, which has() tells. */
    private void needAct(boolean allFit) {
        if (!allFit) {
            refusedActs++;
            throw new ArithmeticException("a number does not fit its column");
        }
    }

    // ---- numbers

    private static boolean fits(int width, long v) {
        long signs = v >> (width - 1);
        return signs == 0 || signs == -1;
    }

    /** NOTHING has just the bit that is beyond all WIDTHS, so that EMPTY CELLS have none. */
    private static boolean hasBit(long number, int bit) {
        return ((number >> bit) & 1L) != 0;
    }

    private static boolean stands(long number, int how, long v) {
        switch (how) {
            case BELOW:
                return number < v;
            case NO_MORE:
                return number <= v;
            case JUST:
                return number == v;
            case ANOTHER:
                return number != v;
            case NO_LESS:
                return number >= v;
            default:
                return number > v;
        }
    }

    private static long joined(long a, long b, int how) {
        switch (how) {
            case 0:
                return a & b;
            case 1:
                return a | b;
            case 2:
                return a ^ b;
            default:
                return a & ~b;
        }
    }

    private static long sumOrTooGreat(long number, long v) {
        // Neither difference overflows, for a number has 63 bits at most.
        boolean fitsSome = v >= LEAST_NUMBER - number && v <= GREATEST_NUMBER - number;
        return fitsSome ? number + v : TOO_GREAT;
    }

    private static long productOrTooGreat(long number, int n) {
        if (n == 0) {
            return 0;
        }
        long mostAmount = -LEAST_NUMBER / Math.abs(n);
        return Math.abs(number) <= mostAmount ? number * n : TOO_GREAT;
    }

    private static long shiftedOrTooGreat(long number, int n) {
        if (n < 0) {
            return number >> -n;
        }
        // Asked of the number, not of what comes: that may be the least long, which stands for EMPTY.
        boolean fitsSome = number >= LEAST_NUMBER >> n && number <= GREATEST_NUMBER >> n;
        return fitsSome ? number << n : TOO_GREAT;
    }

    private void gather(int column, int under) {
        picked.restart();
        for (int row = 0; row < table.rowCount; row++) {
            if (table.isNumbered(column, row, under)) {
                picked.take(row, table.cells[column][row]);
            }
        }
    }

    private long sumUpTo(int column, int under, int end) {
        wide.restart();
        for (int row = 0; row < end && row < table.rowCount; row++) {
            if (table.isNumbered(column, row, under)) {
                wide.include(table.cells[column][row]);
            }
        }
        return wide.exactLong();
    }

    // ---- the mask that is made

    private void begin() {
        for (int w = 0; w < WORDS; w++) {
            made[w] = 0;
        }
    }

    private void include(int row) {
        if (row >= 0 && row < table.rowCount) {
            made[row / WORD_ROWS] |= 1L << (row % WORD_ROWS);
        }
    }

    private void includeEach(int step, int from, int end) {
        // Below 1 the loop would have no end; a step of all ROWS goes as far as any greater one, which might overflow.
        int stride = Math.max(1, Math.min(step, MOST_ROWS));
        for (int row = from; row < end; row += stride) {
            include(row);
        }
    }

    private int become(int to) {
        for (int w = 0; w < WORDS; w++) {
            table.masks[to][w] = made[w];
        }
        return table.maskCount(to);
    }

    private boolean isLikeOneMade(int row) {
        for (int earlier = 0; earlier < row; earlier++) {
            if (isIn(made, earlier) && table.areAlike(earlier, row)) {
                return true;
            }
        }
        return false;
    }

    private static boolean isIn(long[] words, int row) {
        return ((words[row / WORD_ROWS] >> (row % WORD_ROWS)) & 1L) != 0;
    }

    // ---- what comes to a column by an act

    private void expectAsItIs(int column) {
        for (int row = 0; row < table.rowCount; row++) {
            coming[row] = table.cells[column][row];
        }
    }

    private int come(int column) {
        boolean allFit = true;
        for (int row = 0; row < table.rowCount; row++) {
            allFit = allFit && (coming[row] == NOTHING || fits(table.widths[column], coming[row]));
        }
        needAct(allFit);
        int others = 0;
        for (int row = 0; row < table.rowCount; row++) {
            others += table.cells[column][row] == coming[row] ? 0 : 1;
            table.cells[column][row] = coming[row];
        }
        return others;
    }

    // ---- rows in another order

    private void pickRows(int mask, boolean within) {
        for (int row = 0; row < table.rowCount; row++) {
            if (table.isUnder(row, mask) == within) {
                picked.take(row, NOTHING);
            }
        }
    }

    /** The table gets just the picked ROWS, as they stand there: how many are somewhere else. */
    private int arrange() {
        for (int c = 0; c < table.columnCount; c++) {
            expectAsItIs(c);
            for (int i = 0; i < picked.many; i++) {
                table.cells[c][i] = coming[picked.rowAt[i]];
            }
        }
        for (int m = 0; m < MASKS; m++) {
            begin();
            for (int i = 0; i < picked.many; i++) {
                if (table.isUnder(picked.rowAt[i], m)) {
                    include(i);
                }
            }
            become(m);
        }
        table.rowCount = picked.many;
        return picked.howManyElsewhere();
    }

    /** What an image keeps. CELLS beyond the ROWS and COLUMNS there are hold anything; MASKS have no bit beyond. */
    private static final class Table {
        int rowCount;
        int columnCount;
        final int[] widths = new int[MOST_COLUMNS];
        /** By COLUMN and ROW. NOTHING FITS no WIDTH, so that it can stand for EMPTY. */
        final long[][] cells = new long[MOST_COLUMNS][MOST_ROWS];
        final long[][] masks = new long[MASKS][WORDS];

        void becomeLike(Table other) {
            rowCount = other.rowCount;
            columnCount = other.columnCount;
            System.arraycopy(other.widths, 0, widths, 0, MOST_COLUMNS);
            for (int c = 0; c < MOST_COLUMNS; c++) {
                System.arraycopy(other.cells[c], 0, cells[c], 0, MOST_ROWS);
            }
            for (int m = 0; m < MASKS; m++) {
                System.arraycopy(other.masks[m], 0, masks[m], 0, WORDS);
            }
        }

        void emptyCells(int column, int from, int end) {
            for (int row = from; row < end; row++) {
                cells[column][row] = NOTHING;
            }
        }

        void exchangeColumns(int a, int b) {
            int width = widths[a];
            widths[a] = widths[b];
            widths[b] = width;
            for (int row = 0; row < rowCount; row++) {
                long number = cells[a][row];
                cells[a][row] = cells[b][row];
                cells[b][row] = number;
            }
        }

        int numbersOf(int column) {
            int many = 0;
            for (int row = 0; row < rowCount; row++) {
                many += cells[column][row] == NOTHING ? 0 : 1;
            }
            return many;
        }

        int allNumbers() {
            int many = 0;
            for (int c = 0; c < columnCount; c++) {
                many += numbersOf(c);
            }
            return many;
        }

        int allWidths() {
            int together = 0;
            for (int c = 0; c < columnCount; c++) {
                together += widths[c];
            }
            return together;
        }

        int emptyRows() {
            int many = 0;
            for (int row = 0; row < rowCount; row++) {
                boolean allEmpty = true;
                for (int c = 0; c < columnCount; c++) {
                    allEmpty = allEmpty && cells[c][row] == NOTHING;
                }
                many += allEmpty ? 1 : 0;
            }
            return many;
        }

        int leastWidth(int column) {
            int least = LEAST_WIDTH;
            for (int row = 0; row < rowCount; row++) {
                while (least < MOST_WIDTH && cells[column][row] != NOTHING && !fits(least, cells[column][row])) {
                    least++;
                }
            }
            return least;
        }

        boolean areAlike(int a, int b) {
            for (int c = 0; c < columnCount; c++) {
                if (cells[c][a] != cells[c][b]) {
                    return false;
                }
            }
            return true;
        }

        boolean isUnder(int row, int mask) {
            return isIn(masks[mask], row);
        }

        boolean isNumbered(int column, int row, int mask) {
            return cells[column][row] != NOTHING && isUnder(row, mask);
        }

        boolean areBothNumbered(int column, int other, int row, int mask) {
            return cells[other][row] != NOTHING && isNumbered(column, row, mask);
        }

        int maskCount(int mask) {
            int many = 0;
            for (int w = 0; w < WORDS; w++) {
                many += Long.bitCount(masks[mask][w]);
            }
            return many;
        }

        long rowsOfWord(int word) {
            int many = rowCount - word * WORD_ROWS;
            if (many <= 0) {
                return 0;
            }
            return many >= WORD_ROWS ? -1L : (1L << many) - 1;
        }
    }

    /** ROWS with their numbers, in an order. Made once and used again by every call that needs such. */
    private static final class Picked {
        int many;
        final int[] rowAt = new int[MOST_ROWS];
        final long[] numberAt = new long[MOST_ROWS];
        private final int[] spareRowAt = new int[MOST_ROWS];
        private final long[] spareNumberAt = new long[MOST_ROWS];

        void restart() {
            many = 0;
        }

        void take(int row, long number) {
            if (many < MOST_ROWS) {
                rowAt[many] = row;
                numberAt[many] = number;
                many++;
            }
        }

        long numberOrNothing(int i) {
            return i >= 0 && i < many ? numberAt[i] : NOTHING;
        }

        int howMany(int how, long v) {
            int found = 0;
            for (int i = 0; i < many; i++) {
                found += stands(numberAt[i], how, v) ? 1 : 0;
            }
            return found;
        }

        int howManyElsewhere() {
            int found = 0;
            for (int i = 0; i < many; i++) {
                found += rowAt[i] == i ? 0 : 1;
            }
            return found;
        }

        /** By number, like ones as they stood: how many couples stood the other way round. */
        int putInOrder(boolean falling) {
            int turned = 0;
            for (int length = 1; length < many; length += length) {
                for (int from = 0; from < many; from += 2 * length) {
                    int middle = Math.min(from + length, many);
                    turned += merge(from, middle, Math.min(middle + length, many), falling);
                }
                System.arraycopy(spareRowAt, 0, rowAt, 0, many);
                System.arraycopy(spareNumberAt, 0, numberAt, 0, many);
            }
            return turned;
        }

        private int merge(int from, int middle, int end, boolean falling) {
            int turned = 0;
            int left = from;
            int right = middle;
            for (int i = from; i < end; i++) {
                boolean takeRight = left >= middle || (right < end && isAhead(right, left, falling));
                if (takeRight) {
                    turned += middle - left;
                }
                int taken = takeRight ? right++ : left++;
                spareRowAt[i] = rowAt[taken];
                spareNumberAt[i] = numberAt[taken];
            }
            return turned;
        }

        private boolean isAhead(int i, int j, boolean falling) {
            return falling ? numberAt[i] > numberAt[j] : numberAt[i] < numberAt[j];
        }
    }

    /** A whole number that may be far greater than a long: limbs of 31 bits, the last one with the sign. */
    private static final class Wide {
        private static final int LIMB_BITS = 31;
        private static final long LIMB = (1L << LIMB_BITS) - 1;
        private static final int LAST = 3;

        private final long[] limbs = new long[LAST + 1];

        void restart() {
            for (int i = 0; i <= LAST; i++) {
                limbs[i] = 0;
            }
        }

        void include(long v) {
            includeAt(0, v & LIMB);
            includeAt(1, v >> LIMB_BITS);
        }

        /** Both factors have 63 bits at most; or x is any long and y is 0 .. 2 to the 31 less 1. */
        void includeProduct(long x, long y) {
            long xLow = x & LIMB;
            long xHigh = x >> LIMB_BITS;
            long yLow = y & LIMB;
            long yHigh = y >> LIMB_BITS;
            includeAt(0, xLow * yLow);
            includeAt(1, xHigh * yLow);
            includeAt(1, xLow * yHigh);
            includeAt(2, xHigh * yHigh);
        }

        private void includeAt(int limb, long v) {
            long carry = v;
            for (int i = limb; i < LAST; i++) {
                long together = limbs[i] + carry;
                limbs[i] = together & LIMB;
                carry = together >> LIMB_BITS;
            }
            limbs[LAST] += carry;
        }

        /** Whether all bits from the 63rd on are the same. */
        boolean isLong() {
            boolean noMore = limbs[LAST] == 0 && limbs[2] <= 1;
            boolean noLess = limbs[LAST] == -1 && limbs[2] >= LIMB - 1;
            return noMore || noLess;
        }

        long asLong() {
            return limbs[0] | (limbs[1] << LIMB_BITS) | (limbs[2] << (2 * LIMB_BITS));
        }

        long exactLong() {
            needLong(isLong());
            return asLong();
        }
    }
}
