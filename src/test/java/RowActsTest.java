/** Promises 53 to 59: acts on rows, in all columns and masks, and images. */
public final class RowActsTest {
    private static final int[] NO_MASKS = {-1, 8, Integer.MIN_VALUE, Integer.MAX_VALUE};
    private static final int[] NO_COLUMNS = {-1, 2, 6, Integer.MIN_VALUE, Integer.MAX_VALUE};

    public static void main(String[] args) {
        remove();
        first();
        sort();
        reverse();
        swap();
        images();
        imageOfAll();
        manyRows();
        Check.end();
    }

    private static SliceColumns two() {
        SliceColumns x = Check.table("8: 3 1 - 2 3 -", "20: 10 11 12 13 - 15");
        x.bits(1, 0, 0b011010);
        x.bits(2, 0, 0b110001);
        return x;
    }

    private static void remove() {
        SliceColumns x = two();
        for (int m : NO_MASKS) {
            Check.refusedUnchanged(x, "remove " + m, Check.INDEX, () -> x.remove(m));
        }
        Check.is("remove none", 6, x.remove(7));
        Check.is("remove", 3, x.remove(1));
        Check.column(x, 0, "3 - -");
        Check.column(x, 1, "10 12 15");
        Check.mask(x, "remove", 0, "0 1 2");
        Check.mask(x, "remove", 1, "");
        Check.mask(x, "remove", 2, "0 2");
        Check.is("rows", 3, x.has(0));
        Check.refused("get(0, 3)", Check.INDEX, () -> x.get(0, 3));
        Check.is("remove all", 0, x.remove(0));
        Check.is("columns stay", 2, x.has(1));
        Check.is("has(5)", 0, x.has(5));
        Check.mask(x, "remove all", 0, "");
    }

    private static void first() {
        SliceColumns x = two();
        for (int m : NO_MASKS) {
            Check.refusedUnchanged(x, "first " + m, Check.INDEX, () -> x.first(m));
        }
        Check.is("first of none", 0, x.first(7));
        Check.is("first of all", 0, x.first(0));
        Check.is("first", 5, x.first(1));
        Check.column(x, 0, "1 2 3 3 - -");
        Check.column(x, 1, "11 13 - 10 12 15");
        Check.mask(x, "first", 1, "0 1 2");
        Check.mask(x, "first", 2, "2 3 5");
        Check.is("first again", 0, x.first(1));
        SliceColumns y = Check.table("8: 0 1 2 3 4");
        y.bits(1, 0, 0b01001);
        Check.is("some stay", 3, y.first(1));
        Check.column(y, 0, "0 3 1 2 4");
    }

    private static void sort() {
        SliceColumns x = two();
        for (int c : NO_COLUMNS) {
            Check.refusedUnchanged(x, "sort " + c, Check.INDEX, () -> x.sort(c, true));
        }
        Check.is("sort rising", 5, x.sort(0, false));
        Check.column(x, 0, "1 2 3 3 - -");
        Check.column(x, 1, "11 13 10 - 12 15");
        Check.mask(x, "sort", 1, "0 1 3");
        Check.mask(x, "sort", 2, "2 3 5");
        Check.is("sort again", 0, x.sort(0, false));
        Check.is("sort falling", 4, x.sort(0, true));
        Check.column(x, 0, "3 3 2 1 - -");
        Check.column(x, 1, "10 - 13 11 12 15");
        Check.mask(x, "sort falling", 1, "1 2 3");
        Check.is("sort by the other one", 5, x.sort(1, true));
        Check.column(x, 1, "15 13 12 11 10 -");
        Check.column(x, 0, "- 2 - 1 3 3");
        SliceColumns y = Check.table("8: - - 1 - -128 127 -");
        Check.is("empty ones last, rising", 6, y.sort(0, false));
        Check.column(y, 0, "-128 1 127 - - - -");
        Check.is("empty ones last, falling", 2, y.sort(0, true));
        Check.column(y, 0, "127 1 -128 - - - -");
        SliceColumns z = Check.table("8: - - -", "8: 1 2 3");
        Check.is("sort by an empty column", 0, z.sort(0, true));
        Check.column(z, 1, "1 2 3");
    }

    private static void reverse() {
        SliceColumns x = two();
        Check.is("reverse", 6, x.reverse());
        Check.column(x, 0, "- 3 2 - 1 3");
        Check.column(x, 1, "15 - 13 12 11 10");
        Check.mask(x, "reverse", 1, "1 2 4");
        Check.mask(x, "reverse", 2, "0 1 5");
        Check.is("reverse again", 6, x.reverse());
        Check.isText("as it was", Check.picture(two()), Check.picture(x));
        Check.is("reverse of none", 0, new SliceColumns().reverse());
    }

    private static void swap() {
        SliceColumns x = two();
        for (int c : NO_COLUMNS) {
            Check.refusedUnchanged(x, "swap " + c, Check.INDEX, () -> x.swap(c, 0));
            Check.refusedUnchanged(x, "swap with " + c, Check.INDEX, () -> x.swap(0, c));
        }
        Check.is("swap", 20, x.swap(0, 1));
        Check.column(x, 0, "10 11 12 13 - 15");
        Check.column(x, 1, "3 1 - 2 3 -");
        Check.is("width", 8, x.width(1, 0));
        Check.mask(x, "swap", 1, "1 3 4");
        Check.is("swap back", 20, x.swap(1, 0));
        Check.isText("as it was", Check.picture(two()), Check.picture(x));
        Check.is("swap with itself", 8, x.swap(0, 0));
        Check.isText("as it was", Check.picture(two()), Check.picture(x));
    }

    private static void images() {
        SliceColumns x = two();
        for (int k : new int[] {-1, 2, Integer.MIN_VALUE, Integer.MAX_VALUE}) {
            Check.refusedUnchanged(x, "keep " + k, Check.INDEX, () -> x.keep(k));
            Check.refusedUnchanged(x, "back " + k, Check.INDEX, () -> x.back(k));
        }
        Check.refusedUnchanged(x, "back 0", Check.STATE, () -> x.back(0));
        Check.is("keep 0", 6, x.keep(0));
        Check.refusedUnchanged(x, "back 1", Check.STATE, () -> x.back(1));
        String was = Check.picture(x);
        x.set(0, 2, 99);
        x.remove(1);
        x.widen(1, 30);
        x.column(5);
        x.rows(1);
        Check.is("keep 1", 4, x.keep(1));
        String then = Check.picture(x);
        Check.is("back 0", 6, x.back(0));
        Check.isText("image 0", was, Check.picture(x));
        x.drop(0);
        x.wipe(0, 0);
        x.turn(0, 0);
        Check.is("back 0 again", 6, x.back(0));
        Check.isText("image 0 stays", was, Check.picture(x));
        Check.is("back 1", 4, x.back(1));
        Check.isText("image 1", then, Check.picture(x));
        x.keep(0);
        x.reverse();
        x.back(0);
        Check.isText("image 0 anew", then, Check.picture(x));
    }

    /** Every column, row and mask is in the image; none is kept in common with the table. */
    private static void imageOfAll() {
        SliceColumns x = new SliceColumns();
        for (int c = 0; c < 6; c++) {
            x.column(63);
        }
        x.rows(64);
        x.rows(64);
        x.rows(64);
        for (int m = 0; m < 8; m++) {
            x.mask(m, 3, m + 1, m / 2);
        }
        x.mask(0, 0, 0, 0);
        for (int c = 0; c < 6; c++) {
            x.fill(c, 1L << (10 * c), 0);
            x.set(c, 191 - c, -c);
        }
        String was = Check.picture(x);
        x.keep(1);
        for (int c = 0; c < 6; c++) {
            x.fill(c, 7, 0);
        }
        for (int m = 0; m < 8; m++) {
            x.mask(m, 1, 0, 0);
        }
        x.back(1);
        Check.isText("image of all", was, Check.picture(x));
        x.mask(0, 0, 0, 0);
        x.remove(0);
        for (int c = 0; c < 6; c++) {
            x.drop(0);
        }
        Check.is("back 1", 192, x.back(1));
        Check.isText("image of all, from nothing", was, Check.picture(x));
    }

    private static void manyRows() {
        SliceColumns x = new SliceColumns();
        x.column(20);
        x.rows(64);
        x.rows(64);
        x.rows(64);
        for (int row = 0; row < 192; row++) {
            x.set(0, row, (row * 77) % 192 / 2);
        }
        x.mask(1, 3, 3, 1);
        x.mask(2, 2, 100, 192);
        Check.is("sort many", elsewhere(), x.sort(0, false));
        Check.is("sort many again", 0, x.sort(0, false));
        for (int row = 0; row < 192; row++) {
            Check.is("row " + row, row / 2, x.get(0, row));
        }
        Check.is("mask 1 stays as great", 64, x.row(1, -1));
        Check.is("mask 2 stays as great", 92, x.row(2, -1));
        Check.is("reverse many", 192, x.reverse());
        Check.is("remove many", 128, x.remove(1));
        Check.is("numbers", 128, x.has(2));
        Check.is("falling", 0, x.sort(0, true));
    }

    /** How many rows a stable sort of the numbers in manyRows() puts somewhere else. */
    private static int elsewhere() {
        int elsewhere = 0;
        for (int row = 0; row < 192; row++) {
            int v = (row * 77) % 192 / 2;
            int place = 0;
            for (int other = 0; other < 192; other++) {
                int w = (other * 77) % 192 / 2;
                place += w < v || (w == v && other < row) ? 1 : 0;
            }
            elsewhere += place == row ? 0 : 1;
        }
        return elsewhere;
    }
}
