/** Promises 43 to 52: acts on numbers of a column, under a mask. */
public final class ActsTest {
    private static final long MOST = (1L << 62) - 1;
    private static final long LEAST = -(1L << 62);

    public static void main(String[] args) {
        refusals();
        add();
        plus();
        scale();
        shift();
        hold();
        fill();
        copy();
        pick();
        wipe();
        widen();
        Check.end();
    }

    private interface Act {
        long answer(SliceColumns x, int column, int under);
    }

    /** No such column or mask comes ahead of all else that is wrong. */
    private static void refusals() {
        actRefusals("add", (x, c, m) -> x.add(c, 1000, m));
        actRefusals("plus", (x, c, m) -> x.plus(c, 1, false, m));
        actRefusals("plus, other", (x, c, m) -> x.plus(0, c, false, m));
        actRefusals("scale", (x, c, m) -> x.scale(c, 99, m));
        actRefusals("shift", (x, c, m) -> x.shift(c, 99, m));
        actRefusals("hold", (x, c, m) -> x.hold(c, 1000, -1000, m));
        actRefusals("fill", (x, c, m) -> x.fill(c, 1000, m));
        actRefusals("copy", (x, c, m) -> x.copy(c, 1, m));
        actRefusals("copy, from", (x, c, m) -> x.copy(0, c, m));
        actRefusals("pick", (x, c, m) -> x.pick(c, 1, true, m));
        actRefusals("pick, other", (x, c, m) -> x.pick(0, c, true, m));
        actRefusals("wipe", (x, c, m) -> x.wipe(c, m));
    }

    private static void actRefusals(String name, Act act) {
        SliceColumns x = Check.table("8: 1 2 -", "20: 1000 -1000 5");
        for (int c : new int[] {-1, 2, 6, Integer.MIN_VALUE, Integer.MAX_VALUE}) {
            Check.refusedUnchanged(x, name + " of column " + c, Check.INDEX, () -> act.answer(x, c, 0));
        }
        for (int m : new int[] {-1, 8, Integer.MIN_VALUE, Integer.MAX_VALUE}) {
            Check.refusedUnchanged(x, name + " under " + m, Check.INDEX, () -> act.answer(x, 0, m));
        }
    }

    private static void add() {
        SliceColumns x = Check.table("8: 5 - -3 100", "63: " + MOST + " " + LEAST + " 0 -");
        x.mask(1, 2, 0, 3);
        Check.is("add 7", 2, x.add(0, 7, 1));
        Check.column(x, 0, "12 - 4 100");
        Check.is("add 27", 3, x.add(0, 27, 0));
        Check.column(x, 0, "39 - 31 127");
        Check.actRefused(x, "add 1", () -> x.add(0, 1, 0));
        Check.is("add -159", 2, x.add(0, -159, 1));
        Check.column(x, 0, "-120 - -128 127");
        Check.actRefused(x, "add -1", () -> x.add(0, -1, 0));
        for (long v : new long[] {Long.MAX_VALUE, Long.MIN_VALUE, 1, -1, MOST, LEAST}) {
            Check.actRefused(x, "add " + v, () -> x.add(1, v, 0));
        }
        x.bits(2, 0, 1);
        x.bits(3, 0, 2);
        Check.is("most to least", 1, x.add(1, -Long.MAX_VALUE, 2));
        Check.is("least to most", 1, x.add(1, Long.MAX_VALUE, 3));
        Check.column(x, 1, LEAST + " " + MOST + " 0 -");
        Check.actRefused(x, "least less the greatest long", () -> x.add(1, -Long.MAX_VALUE, 2));
        Check.is("add the greatest long to none", 0, x.add(1, Long.MAX_VALUE, 7));
        x.bits(4, 0, 2);
        Check.is("add the greatest long to an empty one", 0, x.add(0, Long.MAX_VALUE, 4));
    }

    private static void plus() {
        SliceColumns x = Check.table("8: 5 - -3 100 7", "20: 10 4 -20 27 -");
        Check.is("plus", 3, x.plus(0, 1, false, 0));
        Check.column(x, 0, "15 - -23 127 7");
        Check.is("less", 3, x.plus(0, 1, true, 0));
        Check.column(x, 0, "5 - -3 100 7");
        x.set(1, 3, 28);
        Check.actRefused(x, "plus beyond", () -> x.plus(0, 1, false, 0));
        x.mask(1, 2, 0, 3);
        Check.is("plus under some", 2, x.plus(0, 1, false, 1));
        Check.column(x, 0, "15 - -23 100 7");
        x.set(1, 2, 106);
        Check.actRefused(x, "less beyond", () -> x.plus(0, 1, true, 0));
        x.set(1, 2, 105);
        Check.is("less to the edge", 3, x.plus(0, 1, true, 0));
        Check.column(x, 0, "5 - -128 72 7");
        Check.column(x, 1, "10 4 105 28 -");
        Check.is("less itself", 4, x.plus(1, 1, true, 0));
        Check.column(x, 1, "0 0 0 0 -");
        x.set(0, 3, -64);
        x.clear(0, 2);
        Check.is("plus itself", 3, x.plus(0, 0, false, 0));
        Check.column(x, 0, "10 - - -128 14");
        SliceColumns y = Check.table("63: " + MOST + " " + LEAST, "63: " + MOST + " " + LEAST);
        Check.actRefused(y, "most plus most", () -> y.plus(0, 1, false, 0));
        Check.is("most less most", 2, y.plus(0, 1, true, 0));
        Check.column(y, 0, "0 0");
        Check.actRefused(y, "0 less least", () -> y.plus(0, 1, true, 0));
        y.set(0, 1, -1);
        Check.is("-1 less least", 2, y.plus(0, 1, true, 0));
        Check.column(y, 0, -MOST + " " + MOST);
        Check.actRefused(y, "most less least", () -> y.plus(0, 1, true, 0));
    }

    private static void scale() {
        SliceColumns x = Check.table("8: 5 - -14 14 0", "63: " + MOST + " " + LEAST + " 1 - -1");
        Check.is("times 9", 4, x.scale(0, 9, 0));
        Check.column(x, 0, "45 - -126 126 0");
        Check.actRefused(x, "times 2", () -> x.scale(0, 2, 0));
        x.mask(1, 2, 0, 2);
        Check.is("times -2 under some", 1, x.scale(0, -2, 1));
        Check.column(x, 0, "-90 - -126 126 0");
        Check.is("times -1", 4, x.scale(0, -1, 0));
        Check.column(x, 0, "90 - 126 -126 0");
        for (int n : new int[] {-9, -4, -2, -1, 2, 3, 4, 8, 9}) {
            Check.actRefused(x, "times " + n, () -> x.scale(1, n, 0));
        }
        Check.is("times 1", 4, x.scale(1, 1, 0));
        x.bits(2, 0, 1);
        Check.is("most times -1", 1, x.scale(1, -1, 2));
        Check.column(x, 1, -MOST + " " + LEAST + " 1 - -1");
        Check.is("times 0", 4, x.scale(1, 0, 0));
        Check.column(x, 1, "0 0 0 - 0");
        x.set(1, 0, 1L << 61);
        Check.actRefused(x, "half of it times 2", () -> x.scale(1, 2, 2));
        Check.is("half of it times -2", 1, x.scale(1, -2, 2));
        Check.column(x, 1, LEAST + " 0 0 - 0");
        x.set(1, 0, MOST / 9);
        Check.is("a ninth times 9", 1, x.scale(1, 9, 2));
        x.set(1, 0, MOST / 9 + 1);
        Check.actRefused(x, "more than a ninth times 9", () -> x.scale(1, 9, 2));
        for (int n : new int[] {-10, 10, Integer.MIN_VALUE, Integer.MAX_VALUE}) {
            Check.refusedUnchanged(x, "times " + n, Check.ARGUMENT, () -> x.scale(0, n, 0));
        }
    }

    private static void shift() {
        SliceColumns x = Check.table("8: 5 - -16 15 0", "63: " + MOST + " " + LEAST + " 1 - -1");
        Check.is("shift 3", 4, x.shift(0, 3, 0));
        Check.column(x, 0, "40 - -128 120 0");
        Check.actRefused(x, "shift 1", () -> x.shift(0, 1, 0));
        Check.is("shift -4", 4, x.shift(0, -4, 0));
        Check.column(x, 0, "2 - -8 7 0");
        x.mask(1, 2, 2, 4);
        Check.is("shift -1 under some", 2, x.shift(0, -1, 1));
        Check.column(x, 0, "2 - -4 3 0");
        Check.is("shift -1", 4, x.shift(0, -1, 0));
        Check.column(x, 0, "1 - -2 1 0");
        Check.is("shift -2", 4, x.shift(0, -2, 0));
        Check.column(x, 0, "0 - -1 0 0");
        for (int n : new int[] {1, 2, 31, 32, 61, 62}) {
            Check.actRefused(x, "shift " + n, () -> x.shift(1, n, 0));
        }
        x.bits(2, 0, 0b10000);
        x.bits(3, 0, 0b00100);
        Check.is("-1 shift 62", 1, x.shift(1, 62, 2));
        Check.actRefused(x, "1 shift 62", () -> x.shift(1, 62, 3));
        Check.is("1 shift 61", 1, x.shift(1, 61, 3));
        Check.column(x, 1, MOST + " " + LEAST + " " + (1L << 61) + " - " + LEAST);
        Check.is("shift -62", 4, x.shift(1, -62, 0));
        Check.column(x, 1, "0 -1 0 - -1");
        Check.is("-1 shift -62", 4, x.shift(1, -62, 0));
        Check.column(x, 1, "0 -1 0 - -1");
        x.set(1, 0, 4);
        x.bits(4, 0, 1);
        Check.actRefused(x, "4 shift 62, which would wrap to 0", () -> x.shift(1, 62, 4));
        shiftToTheEdge();
        shiftByNone();
        for (int n : new int[] {-63, 63, 64, -64, Integer.MIN_VALUE, Integer.MAX_VALUE}) {
            Check.refusedUnchanged(x, "shift " + n, Check.ARGUMENT, () -> x.shift(0, n, 0));
        }
    }

    /** What would come to be the least long, or the one after the most, FITS no column, as little as NOTHING does. */
    private static void shiftToTheEdge() {
        SliceColumns x = Check.table("63: 0");
        for (int n = 1; n <= 62; n++) {
            int by = n;
            x.set(0, 0, Math.max(Long.MIN_VALUE >> n, LEAST));
            Check.actRefused(x, "shift to the least long by " + n, () -> x.shift(0, by, 0));
            x.set(0, 0, (LEAST >> n) - 1);
            Check.actRefused(x, "shift below the least by " + n, () -> x.shift(0, by, 0));
            x.set(0, 0, LEAST >> n);
            Check.is("shift to the least by " + n, 1, x.shift(0, n, 0));
            Check.column(x, 0, Long.toString(LEAST));
            x.set(0, 0, (MOST >> n) + 1);
            Check.actRefused(x, "shift beyond the most by " + n, () -> x.shift(0, by, 0));
            x.set(0, 0, MOST >> n);
            Check.is("shift below the most by " + n, 1, x.shift(0, n, 0));
            Check.column(x, 0, Long.toString(MOST >> n << n));
        }
    }

    /** n is above 0 or below 0: 0 can't be, whether there are numbers or not. */
    private static void shiftByNone() {
        SliceColumns x = Check.table("8: 5 - -16", "2:");
        Check.refusedUnchanged(x, "shift 0", Check.ARGUMENT, () -> x.shift(0, 0, 0));
        Check.refusedUnchanged(x, "shift 0 of EMPTY ones", Check.ARGUMENT, () -> x.shift(1, 0, 0));
        Check.refusedUnchanged(x, "shift 0 under none", Check.ARGUMENT, () -> x.shift(0, 0, 7));
        Check.refusedUnchanged(x, "shift 0 of no column", Check.INDEX, () -> x.shift(2, 0, 0));
        Check.refusedUnchanged(x, "shift 0 under no mask", Check.INDEX, () -> x.shift(0, 0, 8));
        SliceColumns y = new SliceColumns();
        y.column(2);
        Check.refusedUnchanged(y, "shift 0 without rows", Check.ARGUMENT, () -> y.shift(0, 0, 0));
        Check.is("shift 1 without rows", 0, y.shift(0, 1, 0));
        Check.is("shift -1 without rows", 0, y.shift(0, -1, 0));
    }

    private static void hold() {
        SliceColumns x = Check.table("8: 5 - -30 100 7");
        x.mask(1, 2, 0, 3);
        Check.is("hold 6 .. 10 under some", 2, x.hold(0, 6, 10, 1));
        Check.column(x, 0, "6 - 6 100 7");
        Check.is("hold -128 .. 127", 0, x.hold(0, -128, 127, 0));
        Check.is("hold 6 .. 7", 1, x.hold(0, 6, 7, 0));
        Check.column(x, 0, "6 - 6 7 7");
        Check.is("hold 3 .. 3", 4, x.hold(0, 3, 3, 0));
        Check.column(x, 0, "3 - 3 3 3");
        Check.refusedUnchanged(x, "hold 4 .. 3", Check.ARGUMENT, () -> x.hold(0, 4, 3, 0));
        Check.refusedUnchanged(x, "hold 400 .. 300", Check.ARGUMENT, () -> x.hold(0, 400, 300, 0));
        Check.refusedUnchanged(x, "hold most .. least", Check.ARGUMENT,
                () -> x.hold(0, Long.MAX_VALUE, Long.MIN_VALUE, 0));
        Check.actRefused(x, "hold 0 .. 128", () -> x.hold(0, 0, 128, 0));
        Check.actRefused(x, "hold -129 .. 0", () -> x.hold(0, -129, 0, 0));
        Check.actRefused(x, "hold 128 .. 129", () -> x.hold(0, 128, 129, 0));
        Check.actRefused(x, "hold all longs", () -> x.hold(0, Long.MIN_VALUE, Long.MAX_VALUE, 0));
        Check.actRefused(x, "hold 0 .. 128 under none", () -> x.hold(0, 0, 128, 7));
    }

    private static void fill() {
        SliceColumns x = Check.table("8: 5 - - 100", "8: 1 1 1 1");
        x.mask(1, 2, 0, 3);
        Check.is("fill under some", 2, x.fill(0, -128, 1));
        Check.column(x, 0, "-128 -128 -128 100");
        Check.is("fill all", 0, x.fill(0, 127, 0));
        Check.column(x, 0, "127 127 127 127");
        Check.column(x, 1, "1 1 1 1");
        Check.is("fill under none", 0, x.fill(0, 3, 7));
        Check.column(x, 0, "127 127 127 127");
        for (long v : new long[] {128, -129, Long.MIN_VALUE, Long.MAX_VALUE}) {
            Check.actRefused(x, "fill " + v, () -> x.fill(0, v, 0));
            Check.actRefused(x, "fill " + v + " under none", () -> x.fill(0, v, 7));
        }
        SliceColumns y = Check.table("2:");
        Check.is("fill without rows", 0, y.fill(0, 1, 0));
        Check.actRefused(y, "fill 2 without rows", () -> y.fill(0, 2, 0));
    }

    private static void copy() {
        SliceColumns x = Check.table("8: 5 - -3 - 9 9", "20: 5 6 - - 10 1000");
        x.mask(1, 2, 0, 5);
        Check.actRefused(x, "copy", () -> x.copy(0, 1, 0));
        Check.is("copy under some", 3, x.copy(0, 1, 1));
        Check.column(x, 0, "5 6 - - 10 9");
        Check.column(x, 1, "5 6 - - 10 1000");
        Check.is("copy again", 0, x.copy(0, 1, 1));
        Check.is("copy of itself", 0, x.copy(1, 1, 0));
        Check.column(x, 1, "5 6 - - 10 1000");
        Check.is("copy to the wider one", 1, x.copy(1, 0, 0));
        Check.column(x, 1, "5 6 - - 10 9");
        Check.is("copy under none", 0, x.copy(1, 0, 7));
        x.set(1, 1, 128);
        Check.actRefused(x, "copy 128", () -> x.copy(0, 1, 0));
        x.set(1, 1, -128);
        Check.is("copy -128", 1, x.copy(0, 1, 0));
    }

    private static void pick() {
        SliceColumns x = Check.table("8: 5 - -3 7 9 9", "20: 4 6 - 7 10 -1000");
        x.mask(1, 2, 0, 5);
        Check.actRefused(x, "pick the less", () -> x.pick(0, 1, false, 0));
        Check.is("pick the less under some", 1, x.pick(0, 1, false, 1));
        Check.column(x, 0, "4 - -3 7 9 9");
        Check.is("pick the greater", 1, x.pick(0, 1, true, 0));
        Check.column(x, 0, "4 - -3 7 10 9");
        Check.column(x, 1, "4 6 - 7 10 -1000");
        Check.is("pick of itself", 0, x.pick(0, 0, true, 0));
        x.set(1, 0, 128);
        Check.actRefused(x, "pick 128", () -> x.pick(0, 1, true, 0));
        x.set(1, 5, 0);
        Check.is("128 is not picked", 1, x.pick(0, 1, false, 0));
        Check.column(x, 0, "4 - -3 7 10 0");
        x.set(1, 0, 127);
        Check.is("pick 127", 1, x.pick(0, 1, true, 0));
        x.set(1, 1, 999);
        Check.is("an empty one stays, whatever is there", 0, x.pick(0, 1, true, 0));
        Check.column(x, 0, "127 - -3 7 10 0");
    }

    private static void wipe() {
        SliceColumns x = Check.table("8: 5 - -3 7", "8: 1 2 3 4");
        x.mask(1, 2, 0, 3);
        Check.is("wipe under some", 2, x.wipe(0, 1));
        Check.column(x, 0, "- - - 7");
        Check.is("wipe", 1, x.wipe(0, 0));
        Check.is("wipe again", 0, x.wipe(0, 0));
        Check.column(x, 0, "- - - -");
        Check.column(x, 1, "1 2 3 4");
    }

    private static void widen() {
        SliceColumns x = Check.table("8: 5 - -8 7", "63: " + MOST + " 0 - -");
        Check.is("widen to 9", 8, x.widen(0, 9));
        Check.is("width", 9, x.width(0, 0));
        Check.is("set 255", 0, x.set(0, 0, 255));
        Check.actRefused(x, "widen to 8", () -> x.widen(0, 8));
        x.set(0, 0, 0);
        Check.is("widen to 4", 9, x.widen(0, 4));
        Check.column(x, 0, "0 - -8 7");
        Check.actRefused(x, "widen to 3", () -> x.widen(0, 3));
        Check.is("widen to 4 again", 4, x.widen(0, 4));
        Check.actRefused(x, "set 8", () -> x.set(0, 0, 8));
        x.wipe(0, 0);
        Check.is("widen to 2", 4, x.widen(0, 2));
        Check.is("widen to 63", 2, x.widen(0, 63));
        Check.actRefused(x, "widen the most to 62", () -> x.widen(1, 62));
        for (int width : new int[] {1, 0, -1, 64, Integer.MIN_VALUE, Integer.MAX_VALUE}) {
            Check.refusedUnchanged(x, "widen to " + width, Check.ARGUMENT, () -> x.widen(1, width));
            Check.refusedUnchanged(x, "widen no column to " + width, Check.INDEX, () -> x.widen(2, width));
        }
        Check.refusedUnchanged(x, "widen column -1", Check.INDEX, () -> x.widen(-1, 5));
    }
}
