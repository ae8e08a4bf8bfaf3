/** Promises 1 to 10: a new object, and the table. */
public final class TableTest {
    private static final long MOST = (1L << 62) - 1;
    private static final long LEAST = -(1L << 62);
    private static final long NOTHING = SliceColumns.NOTHING;

    public static void main(String[] args) {
        newObject();
        column();
        drop();
        rows();
        set();
        clear();
        get();
        has();
        width();
        slice();
        Check.end();
    }

    private static void newObject() {
        Check.is("NONE", -1, SliceColumns.NONE);
        Check.is("NOTHING", Long.MIN_VALUE, SliceColumns.NOTHING);
        SliceColumns x = new SliceColumns();
        for (int what = 0; what <= 6; what++) {
            Check.is("has(" + what + ") of a new object", 0, x.has(what));
        }
        for (int m = 0; m < 8; m++) {
            Check.is("row(" + m + ", NONE) of a new object", 0, x.row(m, -1));
        }
        Check.refused("get(0, 0)", Check.INDEX, () -> x.get(0, 0));
        Check.refused("back(0)", Check.STATE, () -> x.back(0));
    }

    private static void column() {
        SliceColumns x = new SliceColumns();
        x.rows(3);
        for (int width : new int[] {Integer.MIN_VALUE, -1, 0, 1, 64, Integer.MAX_VALUE}) {
            Check.refusedUnchanged(x, "column(" + width + ")", Check.ARGUMENT, () -> x.column(width));
        }
        Check.is("column(2)", 0, x.column(2));
        Check.is("column(63)", 1, x.column(63));
        Check.column(x, 0, "- - -");
        Check.column(x, 1, "- - -");
        for (int c = 2; c < 6; c++) {
            Check.is("column", c, x.column(10 + c));
        }
        Check.is("width(5, 0)", 15, x.width(5, 0));
        Check.refusedUnchanged(x, "a seventh column", Check.STATE, () -> x.column(5));
        Check.refusedUnchanged(x, "a seventh column of no width", Check.ARGUMENT, () -> x.column(64));
        x.set(5, 1, 7);
        x.drop(5);
        Check.is("column again", 5, x.column(4));
        Check.column(x, 5, "- - -");
    }

    private static void drop() {
        SliceColumns x = Check.table("8: 1 2 -", "9: 3 - 4", "10: 5 6 7");
        String before = Check.picture(x);
        Check.refused("drop(-1)", Check.INDEX, () -> x.drop(-1));
        Check.refused("drop(3)", Check.INDEX, () -> x.drop(3));
        Check.isText("state", before, Check.picture(x));
        Check.is("drop(0)", 2, x.drop(0));
        Check.column(x, 0, "3 - 4");
        Check.column(x, 1, "5 6 7");
        Check.is("width(0, 0)", 9, x.width(0, 0));
        Check.is("width(1, 0)", 10, x.width(1, 0));
        Check.refused("get(2, 0)", Check.INDEX, () -> x.get(2, 0));
        Check.is("drop(1)", 1, x.drop(1));
        Check.column(x, 0, "3 - 4");
        Check.is("drop(0)", 0, x.drop(0));
        Check.is("rows stay", 3, x.has(0));
        Check.is("masks stay", 3, x.row(0, -1));
    }

    private static void rows() {
        SliceColumns x = Check.table("8: 1 2 3");
        for (int n : new int[] {Integer.MIN_VALUE, -1, 0, 65, Integer.MAX_VALUE}) {
            Check.refusedUnchanged(x, "rows(" + n + ")", Check.ARGUMENT, () -> x.rows(n));
        }
        Check.is("rows(1)", 4, x.rows(1));
        Check.column(x, 0, "1 2 3 -");
        Check.mask(x, "rows", 0, "0 1 2");
        Check.is("rows(64)", 68, x.rows(64));
        Check.is("rows(64)", 132, x.rows(64));
        Check.refusedUnchanged(x, "rows(61)", Check.STATE, () -> x.rows(61));
        Check.is("rows(60)", 192, x.rows(60));
        Check.refusedUnchanged(x, "rows(1) beyond 192", Check.STATE, () -> x.rows(1));
        Check.refusedUnchanged(x, "rows(0) beyond 192", Check.ARGUMENT, () -> x.rows(0));
        Check.is("numbers", 3, x.has(2));

        // Rows that come again behind such as went are as new ones.
        SliceColumns y = Check.table("8: 1 2 3", "8: 4 5 6");
        y.mask(1, 2, 1, 3);
        y.mask(2, 0, 0, 0);
        y.remove(1);
        y.rows(2);
        Check.column(y, 0, "1 - -");
        Check.column(y, 1, "4 - -");
        Check.mask(y, "rows", 2, "0");
    }

    private static void set() {
        SliceColumns x = Check.table("8: - 4", "2: - -", "63: - -");
        Check.is("set an empty one", 1, x.set(0, 0, -128));
        Check.is("set again", 0, x.set(0, 0, 127));
        Check.is("set a full one", 0, x.set(0, 1, 9));
        Check.is("set(1, 0, -2)", 1, x.set(1, 0, -2));
        Check.is("set(1, 1, 1)", 1, x.set(1, 1, 1));
        Check.is("set(2, 0, least)", 1, x.set(2, 0, LEAST));
        Check.is("set(2, 1, most)", 1, x.set(2, 1, MOST));
        Check.column(x, 0, "127 9");
        Check.column(x, 1, "-2 1");
        Check.column(x, 2, LEAST + " " + MOST);
        Check.actRefused(x, "set(0, 0, 128)", () -> x.set(0, 0, 128));
        Check.actRefused(x, "set(0, 0, -129)", () -> x.set(0, 0, -129));
        Check.actRefused(x, "set(1, 0, 2)", () -> x.set(1, 0, 2));
        Check.actRefused(x, "set(1, 0, -3)", () -> x.set(1, 0, -3));
        Check.actRefused(x, "set(2, 0, most and 1)", () -> x.set(2, 0, MOST + 1));
        Check.actRefused(x, "set(2, 0, least less 1)", () -> x.set(2, 0, LEAST - 1));
        Check.actRefused(x, "set(2, 0, NOTHING)", () -> x.set(2, 0, NOTHING));
        Check.actRefused(x, "set(2, 0, greatest long)", () -> x.set(2, 0, Long.MAX_VALUE));
        cellRefusals("set", x, (c, r) -> x.set(c, r, 1L << 50));
    }

    private static void clear() {
        SliceColumns x = Check.table("8: 1 - 3", "8: 4 5 6");
        Check.is("clear(0, 0)", 1, x.clear(0, 0));
        Check.is("clear(0, 0) again", 0, x.clear(0, 0));
        Check.is("clear(0, 1)", 0, x.clear(0, 1));
        Check.column(x, 0, "- - 3");
        Check.column(x, 1, "4 5 6");
        cellRefusals("clear", x, (c, r) -> x.clear(c, r));
    }

    private static void get() {
        SliceColumns x = Check.table("8: 1 - -3");
        Check.is("get(0, 0)", 1, x.get(0, 0));
        Check.is("get(0, 1)", NOTHING, x.get(0, 1));
        Check.is("get(0, 2)", -3, x.get(0, 2));
        cellRefusals("get", x, (c, r) -> x.get(c, r));
    }

    private interface CellCall {
        long answer(int column, int row);
    }

    private static void cellRefusals(String name, SliceColumns x, CellCall call) {
        int columns = x.has(1);
        int rows = x.has(0);
        int[][] wrong = {{-1, 0}, {columns, 0}, {6, 0}, {Integer.MAX_VALUE, 0}, {0, -1}, {0, rows}, {0, 192},
            {0, Integer.MIN_VALUE}, {-1, -1}};
        for (int[] cell : wrong) {
            Check.refusedUnchanged(x, name + " of " + cell[0] + ", " + cell[1], Check.INDEX,
                    () -> call.answer(cell[0], cell[1]));
        }
    }

    private static void has() {
        SliceColumns x = Check.table("8: 1 - 3 - -", "20: - - 6 7 -");
        int[] due = {5, 2, 4, 6, 28, 2, 0};
        for (int what = 0; what < due.length; what++) {
            Check.is("has(" + what + ")", due[what], x.has(what));
        }
        for (int what : new int[] {-1, 7, 8, Integer.MIN_VALUE, Integer.MAX_VALUE}) {
            Check.is("has(" + what + ")", -1, x.has(what));
        }
        x.drop(0);
        x.drop(0);
        Check.is("has(3) without columns", 0, x.has(3));
        Check.is("has(5) without columns", 5, x.has(5));
        countsOnlyActs();
    }

    private static void countsOnlyActs() {
        SliceColumns x = Check.table("63: 4611686018427387903 4611686018427387903 4611686018427387903", "2: 1 1 1");
        Check.refused("sum", Check.ARITHMETIC, () -> x.sum(0, 0));
        Check.refused("dot", Check.ARITHMETIC, () -> x.dot(0, 0, 0));
        Check.refused("upTo", Check.ARITHMETIC, () -> x.upTo(0, 2, 0));
        Check.is("has(6) after asking", 0, x.has(6));
        Check.actRefused(x, "set", () -> x.set(1, 0, 2));
        Check.actRefused(x, "add", () -> x.add(0, 1, 0));
        Check.actRefused(x, "plus", () -> x.plus(1, 0, false, 0));
        Check.actRefused(x, "scale", () -> x.scale(1, 2, 0));
        Check.actRefused(x, "shift", () -> x.shift(1, 1, 0));
        Check.actRefused(x, "hold", () -> x.hold(1, 0, 2, 0));
        Check.actRefused(x, "fill", () -> x.fill(1, 2, 0));
        Check.actRefused(x, "copy", () -> x.copy(1, 0, 0));
        Check.actRefused(x, "pick", () -> x.pick(1, 0, true, 0));
        Check.actRefused(x, "widen", () -> x.widen(0, 62));
        Check.is("has(6) after ten acts", 10, x.has(6));
        x.keep(0);
        Check.actRefused(x, "set", () -> x.set(1, 0, 2));
        x.back(0);
        Check.is("has(6) is not of the image", 11, x.has(6));
    }

    private static void width() {
        SliceColumns x = Check.table("20: - - -", "63: 1 - -2", "30: 2 - -", "30: -3 0 0", "40: 127 -128 0");
        int[][] due = {{20, 0, 2}, {63, 2, 2}, {30, 1, 3}, {30, 3, 3}, {40, 3, 8}};
        for (int c = 0; c < due.length; c++) {
            for (int what = 0; what < 3; what++) {
                Check.is("width(" + c + ", " + what + ")", due[c][what], x.width(c, what));
            }
        }
        x.set(4, 1, -129);
        Check.is("width of -129", 9, x.width(4, 2));
        x.set(1, 1, MOST);
        Check.is("width of the most", 63, x.width(1, 2));
        x.set(1, 1, LEAST);
        Check.is("width of the least", 63, x.width(1, 2));
        x.set(1, 1, LEAST / 2);
        Check.is("width of half the least", 62, x.width(1, 2));
        Check.refusedUnchanged(x, "width(0, 3)", Check.ARGUMENT, () -> x.width(0, 3));
        Check.refusedUnchanged(x, "width(0, -1)", Check.ARGUMENT, () -> x.width(0, -1));
        Check.refusedUnchanged(x, "width(5, 0)", Check.INDEX, () -> x.width(5, 0));
        Check.refusedUnchanged(x, "width(-1, 3)", Check.INDEX, () -> x.width(-1, 3));
    }

    private static void slice() {
        SliceColumns x = Check.table("4: 5 - -8 -1 3", "63: " + LEAST + " - -1 " + MOST + " 0");
        long[] due = {0b11001, 0b11000, 0b01001, 0b01100};
        for (int bit = 0; bit < 4; bit++) {
            Check.is("slice(0, " + bit + ", 0)", due[bit], x.slice(0, bit, 0));
        }
        Check.is("slice(0, 0, 1)", 0, x.slice(0, 0, 1));
        Check.is("slice(1, 62, 0)", 0b00101, x.slice(1, 62, 0));
        Check.is("slice(1, 61, 0)", 0b01100, x.slice(1, 61, 0));
        Check.is("slice(1, 0, 0)", 0b01100, x.slice(1, 0, 0));
        x.rows(64);
        x.rows(64);
        x.rows(59);
        x.set(0, 63, -1);
        x.set(0, 64, -1);
        x.set(0, 191, -1);
        Check.is("slice(0, 3, 0)", 0b01100 | Long.MIN_VALUE, x.slice(0, 3, 0));
        Check.is("slice(0, 3, 1)", 1, x.slice(0, 3, 1));
        Check.is("slice(0, 3, 2)", Long.MIN_VALUE, x.slice(0, 3, 2));
        int[][] wrong = {{-1, 0, 0}, {2, 0, 0}, {0, -1, 0}, {0, 4, 0}, {1, 63, 0}, {0, 0, -1}, {0, 0, 3},
            {0, Integer.MAX_VALUE, 0}, {6, 99, 99}};
        for (int[] w : wrong) {
            Check.refusedUnchanged(x, "slice(" + w[0] + ", " + w[1] + ", " + w[2] + ")", Check.INDEX,
                    () -> x.slice(w[0], w[1], w[2]));
        }
    }
}
