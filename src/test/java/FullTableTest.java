/** The greatest table, six columns of 192 rows, and tables whose rows end at the edge of a word. */
public final class FullTableTest {
    private static final long NOTHING = SliceColumns.NOTHING;

    public static void main(String[] args) {
        wordEdges();
        eachStep();
        tableCalls();
        maskCalls();
        askedNumbers();
        acts();
        rowActs();
        Check.end();
    }

    private static SliceColumns withRows(int rows) {
        SliceColumns x = new SliceColumns();
        while (x.has(0) < rows) {
            x.rows(Math.min(64, rows - x.has(0)));
        }
        return x;
    }

    /** Column c has c times its row in each row, but for column 5, which is empty. Mask 0 has all rows. */
    private static SliceColumns full() {
        SliceColumns x = withRows(192);
        x.mask(0, 0, 0, 0);
        for (int c = 0; c < 6; c++) {
            x.column(20);
            for (int row = 0; row < 192 && c < 5; row++) {
                x.set(c, row, c * row);
            }
        }
        return x;
    }

    private static void wordEdges() {
        for (int rows : new int[] {0, 1, 2, 63, 64, 65, 127, 128, 129, 191, 192}) {
            SliceColumns x = withRows(rows);
            String of = " of " + rows;
            Check.is("mask all" + of, rows, x.mask(1, 0, 0, 0));
            Check.is("turn of none" + of, rows, x.turn(2, 7));
            int together = 0;
            for (int w = 0; w < 3; w++) {
                int inWord = Math.max(0, Math.min(64, rows - 64 * w));
                long due = inWord == 64 ? -1L : (1L << inWord) - 1;
                together += inWord;
                Check.is("bits of word " + w + of, together, x.bits(3, w, -1));
                Check.is("word " + w + of, due, x.word(1, w));
                Check.is("word " + w + " turned" + of, due, x.word(2, w));
                Check.is("word " + w + " of bits" + of, due, x.word(3, w));
            }
            Check.is("turn of all" + of, 0, x.turn(2, 1));
            Check.is("the last row" + of, rows - 1, rows == 0 ? -1 : x.row(1, rows - 1));
            Check.is("runs" + of, rows, x.runs(1, 1));
        }
    }

    private static void eachStep() {
        SliceColumns x = withRows(192);
        Check.is("each 192nd", 1, x.mask(0, 3, 192, 0));
        Check.mask(x, "each 192nd", 0, "0");
        Check.is("each 193rd", 1, x.mask(0, 3, 193, 0));
        Check.is("each 191st", 2, x.mask(0, 3, 191, 0));
        Check.mask(x, "each 191st", 0, "0 191");
        Check.is("each 193rd from 192 on", 0, x.mask(0, 3, 193, 192));
        Check.is("all up to the last", 192, x.mask(0, 2, 0, 192));
        Check.is("the last", 1, x.mask(0, 2, 191, 192));
        Check.mask(x, "the last", 0, "191");
        Check.is("each second", 96, x.mask(0, 3, 2, 1));
    }

    private static void tableCalls() {
        SliceColumns x = full();
        Check.is("numbers", 5 * 192, x.has(2));
        Check.is("empty cells", 192, x.has(3));
        Check.is("widths", 120, x.has(4));
        Check.is("rows that are empty", 0, x.has(5));
        Check.is("numbers of a column", 192, x.width(4, 1));
        Check.is("least width of 764", 11, x.width(4, 2));
        Check.is("slice", 0xAAAAAAAAAAAAAAAAL, x.slice(1, 0, 2));
        for (int row : new int[] {0, 63, 64, 191}) {
            Check.is("a new column is empty", NOTHING, x.get(5, row));
        }
        Check.is("set in the last cell", 1, x.set(5, 191, 4));
        Check.is("clear in the last cell", 1, x.clear(5, 191));
        Check.is("alike", 0, x.alike(0, 191));
        Check.is("drop", 5, x.drop(1));
        Check.is("widths after drop", 100, x.has(4));
        Check.is("numbers after drop", 4 * 192, x.has(2));
        Check.is("what stands there then", 382, x.get(1, 191));
        Check.is("swap", 20, x.swap(1, 2));
        Check.is("what stands there then", 573, x.get(1, 191));
        Check.is("drop the last", 4, x.drop(4));
        Check.is("alike in column 0", 0, x.alike(0, 191));
        for (int c = 3; c > 0; c--) {
            x.drop(c);
        }
        Check.is("alike in column 0 alone", 1, x.alike(0, 191));
    }

    private static void maskCalls() {
        SliceColumns x = full();
        Check.is("compare", 1, x.compare(1, 1, 4, 191, 0));
        Check.mask(x, "compare", 1, "191");
        Check.is("compare above none", 192, x.compare(1, 1, 4, 0, 0));
        Check.is("against", 1, x.against(1, 1, 2, 2, 0));
        Check.mask(x, "against", 1, "0");
        Check.is("against", 191, x.against(1, 1, 2, 0, 0));
        Check.is("empty", 192, x.empty(1, 5, 0));
        Check.is("empty of a full column", 0, x.empty(1, 4, 0));
        Check.is("top", 3, x.top(1, 3, 0, 3));
        Check.mask(x, "top", 1, "189 190 191");
        Check.is("top of all", 192, x.top(1, 3, 0, 192));
        Check.is("top of like ones", 2, x.top(1, 0, 0, 2));
        Check.mask(x, "top of like ones", 1, "0 1");
        Check.is("field", 64, x.field(1, 1, 6, 2, 2, 0));
        Check.is("word", -1, x.word(1, 2));
        Check.is("move", 1, x.move(1, 0, 191));
        Check.mask(x, "move", 1, "191");
        Check.is("move by all", 0, x.move(2, 0, 192));
        Check.is("move back", 1, x.move(1, 1, -191));
        Check.mask(x, "move back", 1, "0");
        Check.is("firsts", 192, x.firsts(1, 0));
        Check.is("row", 191, x.row(0, 191));
        Check.is("row 0", 0, x.row(0, 0));
        Check.is("row 192", -1, x.row(0, 192));
        Check.is("runs", 1, x.runs(0, 0));
        Check.is("runs, how long", 192, x.runs(0, 1));
        while (x.has(1) > 1) {
            x.drop(1);
        }
        Check.is("firsts of like ones", 1, x.firsts(1, 0));
        Check.mask(x, "firsts of like ones", 1, "0");
    }

    private static void askedNumbers() {
        SliceColumns x = full();
        Check.is("count", 192, x.count(4, 0));
        Check.is("sum", 191 * 96, x.sum(1, 0));
        Check.is("mean", 95, x.mean(1, 0, 0));
        Check.is("what is left", 96, x.mean(1, 0, 1));
        Check.is("kth", 191, x.kth(1, 0, 191));
        Check.is("kth -192", 0, x.kth(1, 0, -192));
        Check.is("kth 192", NOTHING, x.kth(1, 0, 192));
        Check.is("share", 191, x.share(1, 0, 1000, 1000));
        Check.is("upset", 0, x.upset(1, 0));
        Check.is("rank", 191, x.rank(1, 0, 191, 0));
        Check.is("unlike", 192, x.unlike(1, 0, 0));
        Check.is("how often", 192, x.unlike(0, 0, 2));
        Check.is("ones", 96, x.ones(1, 0, 0));
        Check.is("where", 191, x.where(1, 0, 191));
        Check.is("where none is", -1, x.where(1, 0, 192));
        Check.is("dot", 2L * 191 * 192 * 383 / 6, x.dot(1, 2, 0));
        Check.is("steps", 191, x.steps(1, 0));
        Check.is("upTo", 191 * 96, x.upTo(1, 191, 0));
        Check.is("fold", 191 | 127, x.fold(1, 0, 1));
        Check.is("spread", 192L * 191 * 192 * 383 / 6 - 191L * 96 * 191 * 96, x.spread(1, 0));
        Check.is("nearest", 191, x.nearest(1, 0, 1000));
        Check.is("box", 2, x.box(1, 0, 0, 10, 19));
    }

    private static void acts() {
        SliceColumns x = full();
        Check.is("add", 192, x.add(1, 1000, 0));
        Check.is("the first one", 1000, x.get(1, 0));
        Check.is("the last one", 1191, x.get(1, 191));
        Check.is("plus", 192, x.plus(1, 2, false, 0));
        Check.is("the last one", 1573, x.get(1, 191));
        Check.is("scale", 192, x.scale(1, -2, 0));
        Check.is("the last one", -3146, x.get(1, 191));
        Check.is("shift", 192, x.shift(1, -1, 0));
        Check.is("the last one", -1573, x.get(1, 191));
        Check.is("hold", 190, x.hold(1, -1003, -1000, 0));
        Check.is("the last one", -1003, x.get(1, 191));
        Check.is("copy", 192, x.copy(1, 2, 0));
        Check.is("the first one", 0, x.get(1, 0));
        Check.is("the last one", 382, x.get(1, 191));
        Check.is("pick", 191, x.pick(1, 3, true, 0));
        Check.is("the last one", 573, x.get(1, 191));
        Check.is("fill", 192, x.fill(5, 7, 0));
        Check.is("the last one", 7, x.get(5, 191));
        Check.is("wipe", 192, x.wipe(5, 0));
        Check.is("the first one", NOTHING, x.get(5, 0));
        Check.is("the last one", NOTHING, x.get(5, 191));
        Check.actRefused(x, "widen", () -> x.widen(1, 10));
        Check.is("widen", 20, x.widen(1, 11));
        lastOneDoesNotFit();
    }

    private static void lastOneDoesNotFit() {
        SliceColumns x = full();
        for (int row : new int[] {0, 64, 191}) {
            x.wipe(5, 0);
            x.fill(5, 0, 0);
            x.set(5, row, (1L << 19) - 1);
            String where = " by row " + row;
            Check.actRefused(x, "add" + where, () -> x.add(5, 1, 0));
            Check.actRefused(x, "plus" + where, () -> x.plus(5, 5, false, 0));
            Check.actRefused(x, "scale" + where, () -> x.scale(5, 2, 0));
            Check.actRefused(x, "shift" + where, () -> x.shift(5, 1, 0));
            Check.actRefused(x, "widen" + where, () -> x.widen(5, 19));
            x.widen(4, 11);
            Check.actRefused(x, "copy" + where, () -> x.copy(4, 5, 0));
            Check.actRefused(x, "pick" + where, () -> x.pick(4, 5, true, 0));
        }
    }

    private static void rowActs() {
        SliceColumns x = full();
        String was = Check.picture(x);
        Check.is("keep", 192, x.keep(0));
        Check.is("reverse", 192, x.reverse());
        Check.is("the first one", 764, x.get(4, 0));
        Check.is("the last one", 0, x.get(4, 191));
        Check.is("sort", 192, x.sort(1, false));
        Check.isText("as it was", was, Check.picture(x));
        Check.is("sort by an empty one", 0, x.sort(5, true));
        x.mask(1, 2, 191, 192);
        Check.is("first", 192, x.first(1));
        Check.is("the first one", 764, x.get(4, 0));
        Check.is("the last one", 760, x.get(4, 191));
        Check.is("remove", 191, x.remove(1));
        Check.is("the first one", 0, x.get(4, 0));
        Check.is("the last one", 760, x.get(4, 190));
        Check.is("remove all", 0, x.remove(0));
        Check.is("back", 192, x.back(0));
        Check.isText("as it was", was, Check.picture(x));
    }
}
