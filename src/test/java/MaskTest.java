/** Promises 11 to 25: masks. */
public final class MaskTest {
    private static final int[] NO_MASKS = {-1, 8, Integer.MIN_VALUE, Integer.MAX_VALUE};
    private static final int[] NO_COLUMNS = {-1, 2, 6, Integer.MAX_VALUE};

    public static void main(String[] args) {
        mask();
        bits();
        join();
        turn();
        compare();
        against();
        empty();
        top();
        field();
        move();
        firsts();
        runs();
        alike();
        row();
        word();
        madeFromItself();
        Check.end();
    }

    private static SliceColumns wide() {
        SliceColumns x = new SliceColumns();
        x.rows(64);
        x.rows(64);
        x.rows(62);
        return x;
    }

    private static void mask() {
        SliceColumns x = Check.table("8: 1 2 3 4 5 6 7");
        Check.is("mask all", 7, x.mask(3, 0, -5, 99));
        Check.mask(x, "mask all", 3, "0 1 2 3 4 5 6");
        Check.is("mask none", 0, x.mask(3, 1, -5, 99));
        Check.mask(x, "mask none", 3, "");
        Check.is("mask 2 .. 4", 3, x.mask(3, 2, 2, 5));
        Check.mask(x, "mask 2 .. 4", 3, "2 3 4");
        Check.is("mask 0 .. 6", 7, x.mask(3, 2, 0, 7));
        Check.is("mask 7 .. 7", 0, x.mask(3, 2, 7, 7));
        Check.is("each third from 1 on", 2, x.mask(3, 3, 3, 1));
        Check.mask(x, "each third from 1 on", 3, "1 4");
        Check.is("each first", 7, x.mask(7, 3, 1, 0));
        Check.is("each far one from 2 on", 1, x.mask(7, 3, Integer.MAX_VALUE, 2));
        Check.is("each far one from far on", 0, x.mask(7, 3, Integer.MAX_VALUE, Integer.MAX_VALUE - 1));
        int[][] wrong = {{4, 0, 0}, {-1, 0, 0}, {2, -1, 3}, {2, 0, 8}, {2, 4, 3}, {2, 8, 8}, {3, 0, 0}, {3, -1, 0},
            {3, 2, 2}, {3, 2, -1}, {3, Integer.MIN_VALUE, 0}};
        for (int[] w : wrong) {
            Check.refusedUnchanged(x, "mask(0, " + w[0] + ", " + w[1] + ", " + w[2] + ")", Check.ARGUMENT,
                    () -> x.mask(0, w[0], w[1], w[2]));
        }
        for (int m : NO_MASKS) {
            Check.refusedUnchanged(x, "mask(" + m + ", 9, 0, 0)", Check.INDEX, () -> x.mask(m, 9, 0, 0));
        }
        SliceColumns y = wide();
        Check.is("mask all of 190", 190, y.mask(0, 0, 0, 0));
        Check.is("word 0", -1, y.word(0, 0));
        Check.is("word 2", (1L << 62) - 1, y.word(0, 2));
        Check.is("mask 63 .. 128", 66, y.mask(0, 2, 63, 129));
        Check.is("word 0", Long.MIN_VALUE, y.word(0, 0));
        Check.is("word 1", -1, y.word(0, 1));
        Check.is("word 2", 1, y.word(0, 2));
        Check.is("each 192nd", 1, y.mask(0, 3, 192, 189));
        Check.is("each 64th", 3, y.mask(0, 3, 64, 61));
        Check.is("each 64th from 62 on", 2, y.mask(0, 3, 64, 62));
    }

    private static void bits() {
        SliceColumns x = wide();
        Check.is("bits(1, 0, -1)", 64, x.bits(1, 0, -1));
        Check.is("bits(1, 2, -1)", 126, x.bits(1, 2, -1));
        Check.is("word 2", (1L << 62) - 1, x.word(1, 2));
        Check.is("word 1 stays", 0, x.word(1, 1));
        Check.is("bits(1, 0, 5)", 64, x.bits(1, 0, 5));
        Check.is("word 0", 5, x.word(1, 0));
        Check.is("word 2 stays", (1L << 62) - 1, x.word(1, 2));
        Check.is("bits(1, 1, least)", 65, x.bits(1, 1, Long.MIN_VALUE));
        for (int word : new int[] {-1, 3, Integer.MAX_VALUE}) {
            Check.refusedUnchanged(x, "bits(1, " + word + ", 0)", Check.INDEX, () -> x.bits(1, word, 0));
        }
        for (int m : NO_MASKS) {
            Check.refusedUnchanged(x, "bits(" + m + ", 0, 0)", Check.INDEX, () -> x.bits(m, 0, 0));
        }
        SliceColumns y = Check.table("8: 1 2 3");
        Check.is("bits beyond rows", 1, y.bits(0, 0, 0b11011010));
        Check.mask(y, "bits beyond rows", 0, "1");
    }

    private static void join() {
        SliceColumns x = Check.table("8: 1 2 3 4 5");
        x.bits(1, 0, 0b01101);
        x.bits(2, 0, 0b10110);
        String[] due = {"2", "0 1 2 3 4", "0 1 3 4", "0 3"};
        int[] many = {1, 5, 4, 2};
        for (int how = 0; how < 4; how++) {
            Check.is("join how " + how, many[how], x.join(3, 1, 2, how));
            Check.mask(x, "join how " + how, 3, due[how]);
        }
        Check.refusedUnchanged(x, "join how 4", Check.ARGUMENT, () -> x.join(0, 1, 2, 4));
        Check.refusedUnchanged(x, "join how -1", Check.ARGUMENT, () -> x.join(0, 1, 2, -1));
        for (int m : NO_MASKS) {
            Check.refusedUnchanged(x, "join to " + m, Check.INDEX, () -> x.join(m, 0, 0, 9));
            Check.refusedUnchanged(x, "join of " + m, Check.INDEX, () -> x.join(0, m, 0, 9));
            Check.refusedUnchanged(x, "join with " + m, Check.INDEX, () -> x.join(0, 0, m, 9));
        }
    }

    private static void turn() {
        SliceColumns x = wide();
        x.mask(1, 2, 1, 190);
        Check.is("turn", 1, x.turn(2, 1));
        Check.mask(x, "turn", 2, "0");
        Check.is("turn back", 189, x.turn(2, 2));
        Check.is("word 2", (1L << 62) - 1, x.word(2, 2));
        for (int m : NO_MASKS) {
            Check.refusedUnchanged(x, "turn to " + m, Check.INDEX, () -> x.turn(m, 0));
            Check.refusedUnchanged(x, "turn of " + m, Check.INDEX, () -> x.turn(0, m));
        }
    }

    private static void compare() {
        SliceColumns x = Check.table("8: 5 -3 - 127 5 -128", "8: 1 1 1 1 1 1");
        x.mask(1, 2, 0, 5);
        String[] due = {"1", "0 1 4", "0 4", "1 3", "0 3 4", "3"};
        for (int how = 0; how < 6; how++) {
            Check.is("compare how " + how, due[how].split(" ").length, x.compare(2, 0, how, 5, 1));
            Check.mask(x, "compare how " + how, 2, due[how]);
        }
        String[] outer = {"0 1 3 4 5", "0 1 3 4 5", "", "0 1 3 4 5", "", ""};
        for (int how = 0; how < 6; how++) {
            x.compare(2, 0, how, Long.MAX_VALUE, 0);
            Check.mask(x, "compare with the greatest long, how " + how, 2, outer[how]);
            x.compare(2, 0, how, 128, 0);
            Check.mask(x, "compare with what does not fit, how " + how, 2, outer[how]);
            x.compare(2, 0, how == 3 ? 3 : how == 2 ? 2 : 5 - how, Long.MIN_VALUE, 0);
            Check.mask(x, "compare with the least long, how as " + how, 2, outer[how]);
        }
        Check.refusedUnchanged(x, "compare how 6", Check.ARGUMENT, () -> x.compare(2, 0, 6, 0, 0));
        Check.refusedUnchanged(x, "compare how -1", Check.ARGUMENT, () -> x.compare(2, 0, -1, 0, 0));
        for (int m : NO_MASKS) {
            Check.refusedUnchanged(x, "compare to " + m, Check.INDEX, () -> x.compare(m, 0, 9, 0, 0));
            Check.refusedUnchanged(x, "compare under " + m, Check.INDEX, () -> x.compare(0, 0, 9, 0, m));
        }
        for (int c : NO_COLUMNS) {
            Check.refusedUnchanged(x, "compare column " + c, Check.INDEX, () -> x.compare(0, c, 9, 0, 0));
        }
    }

    private static void against() {
        SliceColumns x = Check.table("8: 5 -3 - 127 5 6 4", "63: 4 -3 1 - 6 4611686018427387903 -4611686018427387904");
        x.mask(1, 2, 0, 6);
        String[] due = {"4 5", "1 4 5", "1", "0 4 5", "0 1", "0"};
        for (int how = 0; how < 6; how++) {
            Check.is("against how " + how, due[how].split(" ").length, x.against(2, 0, 1, how, 1));
            Check.mask(x, "against how " + how, 2, due[how]);
        }
        x.against(2, 0, 1, 5, 0);
        Check.mask(x, "against under all", 2, "0 6");
        Check.is("against itself", 6, x.against(2, 0, 0, 2, 0));
        Check.mask(x, "against itself", 2, "0 1 3 4 5 6");
        Check.refusedUnchanged(x, "against how 6", Check.ARGUMENT, () -> x.against(2, 0, 1, 6, 0));
        Check.refusedUnchanged(x, "against how -1", Check.ARGUMENT, () -> x.against(2, 0, 1, -1, 0));
        for (int m : NO_MASKS) {
            Check.refusedUnchanged(x, "against to " + m, Check.INDEX, () -> x.against(m, 0, 1, 9, 0));
            Check.refusedUnchanged(x, "against under " + m, Check.INDEX, () -> x.against(0, 0, 1, 9, m));
        }
        for (int c : NO_COLUMNS) {
            Check.refusedUnchanged(x, "against column " + c, Check.INDEX, () -> x.against(0, c, 1, 9, 0));
            Check.refusedUnchanged(x, "against other " + c, Check.INDEX, () -> x.against(0, 1, c, 9, 0));
        }
    }

    private static void empty() {
        SliceColumns x = Check.table("8: 5 - 0 - -", "8: 1 1 1 1 1");
        Check.is("empty", 3, x.empty(1, 0, 0));
        Check.mask(x, "empty", 1, "1 3 4");
        x.mask(2, 2, 0, 4);
        Check.is("empty under some", 2, x.empty(1, 0, 2));
        Check.mask(x, "empty under some", 1, "1 3");
        Check.is("empty of a full column", 0, x.empty(1, 1, 0));
        x.clear(1, 0);
        Check.is("empty in the first row", 1, x.empty(1, 1, 0));
        Check.mask(x, "empty in the first row", 1, "0");
        for (int m : NO_MASKS) {
            Check.refusedUnchanged(x, "empty to " + m, Check.INDEX, () -> x.empty(m, 0, 0));
            Check.refusedUnchanged(x, "empty under " + m, Check.INDEX, () -> x.empty(0, 0, m));
        }
        for (int c : NO_COLUMNS) {
            Check.refusedUnchanged(x, "empty column " + c, Check.INDEX, () -> x.empty(0, c, 0));
        }
    }

    private static void top() {
        SliceColumns x = Check.table("8: 3 7 - 7 -1 3 7 100", "8: - - - - - - - -");
        x.mask(1, 2, 0, 7);
        String[] due = {"", "1", "1 3", "1 3 6", "0 1 3 6", "0 1 3 5 6", "0 1 3 4 5 6", "0 1 3 4 5 6"};
        for (int k = 0; k < due.length; k++) {
            Check.is("top " + k, Math.min(k, 6), x.top(2, 0, 1, k));
            Check.mask(x, "top " + k, 2, due[k]);
        }
        Check.is("top of very many", 7, x.top(2, 0, 0, Integer.MAX_VALUE));
        Check.is("top of an empty column", 0, x.top(2, 1, 0, 3));
        Check.refusedUnchanged(x, "top -1", Check.ARGUMENT, () -> x.top(2, 0, 0, -1));
        for (int m : NO_MASKS) {
            Check.refusedUnchanged(x, "top to " + m, Check.INDEX, () -> x.top(m, 0, 0, -1));
            Check.refusedUnchanged(x, "top under " + m, Check.INDEX, () -> x.top(0, 0, m, -1));
        }
        for (int c : NO_COLUMNS) {
            Check.refusedUnchanged(x, "top column " + c, Check.INDEX, () -> x.top(0, c, 0, -1));
        }
    }

    private static void field() {
        SliceColumns x = Check.table("8: 5 -3 - 0 -128 21", "63: -1 - 0 4611686018427387903 65535 131071");
        Check.is("bits 0 1 are 1", 3, x.field(1, 0, 0, 2, 1, 0));
        Check.mask(x, "bits 0 1 are 1", 1, "0 1 5");
        Check.is("bits 2 .. 4 are 5", 1, x.field(1, 0, 2, 3, 5, 0));
        Check.mask(x, "bits 2 .. 4 are 5", 1, "5");
        Check.is("all bits", 1, x.field(1, 0, 0, 8, 253, 0));
        Check.mask(x, "all bits", 1, "1");
        Check.is("the sign", 2, x.field(1, 0, 7, 1, 1, 0));
        Check.mask(x, "the sign", 1, "1 4");
        Check.is("no bits: of numbers alone", 2, x.field(1, 0, 0, 7, 0, 0));
        Check.mask(x, "no bits", 1, "3 4");
        Check.is("sixteen bits", 4, x.field(1, 1, 0, 16, 65535, 0));
        Check.mask(x, "sixteen bits", 1, "0 3 4 5");
        Check.is("the last sixteen bits", 1, x.field(1, 1, 47, 16, 32767, 0));
        Check.mask(x, "the last sixteen bits", 1, "3");
        x.mask(2, 2, 4, 6);
        Check.is("field under some", 2, x.field(1, 1, 0, 16, 65535, 2));
        Check.mask(x, "field under some", 1, "4 5");
        int[][] wrong = {{0, 0, 0}, {0, -1, 0}, {0, 9, 0}, {7, 2, 0}, {0, 2, 4}, {0, 2, -1}, {0, 17, 0},
            {0, Integer.MAX_VALUE, 0}, {1, Integer.MAX_VALUE, 0}, {0, Integer.MIN_VALUE, 0}};
        for (int[] w : wrong) {
            Check.refusedUnchanged(x, "field(1, 0, " + w[0] + ", " + w[1] + ", " + w[2] + ", 0)", Check.ARGUMENT,
                    () -> x.field(1, 0, w[0], w[1], w[2], 0));
        }
        Check.refusedUnchanged(x, "seventeen bits", Check.ARGUMENT, () -> x.field(1, 1, 0, 17, 0, 0));
        Check.refusedUnchanged(x, "v beyond sixteen bits", Check.ARGUMENT, () -> x.field(1, 1, 0, 16, 65536, 0));
        for (int from : new int[] {-1, 8, Integer.MAX_VALUE, Integer.MIN_VALUE}) {
            Check.refusedUnchanged(x, "field from " + from, Check.INDEX, () -> x.field(1, 0, from, 0, 0, 0));
        }
        for (int m : NO_MASKS) {
            Check.refusedUnchanged(x, "field to " + m, Check.INDEX, () -> x.field(m, 0, 0, 0, 0, 0));
            Check.refusedUnchanged(x, "field under " + m, Check.INDEX, () -> x.field(0, 0, 0, 0, 0, m));
        }
        for (int c : NO_COLUMNS) {
            Check.refusedUnchanged(x, "field column " + c, Check.INDEX, () -> x.field(0, c, 0, 0, 0, 0));
        }
    }

    private static void move() {
        SliceColumns x = Check.table("8: 1 2 3 4 5");
        x.bits(1, 0, 0b10011);
        int[] n = {0, 1, 2, 4, 5, -1, -3, -4, -5, 192, -192};
        String[] due = {"0 1 4", "1 2", "2 3", "4", "", "0 3", "1", "0", "", "", ""};
        for (int i = 0; i < n.length; i++) {
            int many = due[i].isEmpty() ? 0 : due[i].split(" ").length;
            Check.is("move " + n[i], many, x.move(2, 1, n[i]));
            Check.mask(x, "move " + n[i], 2, due[i]);
        }
        for (int wrong : new int[] {-193, 193, Integer.MIN_VALUE, Integer.MAX_VALUE}) {
            Check.refusedUnchanged(x, "move " + wrong, Check.ARGUMENT, () -> x.move(2, 1, wrong));
        }
        for (int m : NO_MASKS) {
            Check.refusedUnchanged(x, "move to " + m, Check.INDEX, () -> x.move(m, 0, 999));
            Check.refusedUnchanged(x, "move of " + m, Check.INDEX, () -> x.move(0, m, 999));
        }
        SliceColumns y = wide();
        y.mask(0, 0, 0, 0);
        Check.is("move all by 189", 1, y.move(1, 0, 189));
        Check.mask(y, "move all by 189", 1, "189");
        Check.is("move over words", 1, y.move(1, 1, -126));
        Check.mask(y, "move over words", 1, "63");
    }

    private static void firsts() {
        SliceColumns x = Check.table("8: 1 2 1 - 2 - 1 1", "8: 5 6 5 - 6 0 6 5");
        Check.is("firsts", 5, x.firsts(1, 0));
        Check.mask(x, "firsts", 1, "0 1 3 5 6");
        x.mask(2, 2, 2, 8);
        Check.is("firsts under some", 5, x.firsts(1, 2));
        Check.mask(x, "firsts under some", 1, "2 3 4 5 6");
        for (int m : NO_MASKS) {
            Check.refusedUnchanged(x, "firsts to " + m, Check.INDEX, () -> x.firsts(m, 0));
            Check.refusedUnchanged(x, "firsts under " + m, Check.INDEX, () -> x.firsts(0, m));
        }
        x.drop(1);
        x.drop(0);
        Check.is("firsts without columns", 1, x.firsts(1, 2));
        Check.mask(x, "firsts without columns", 1, "2");
        Check.is("firsts under none", 0, x.firsts(1, 5));
    }

    private static void runs() {
        SliceColumns x = Check.table("8: 1 2 3 4 5 6 7 8 9");
        int[] bits = {0b011011010, 0b111111111, 0, 0b101010101, 0b110000000, 0b000000011};
        int[][] due = {{3, 2, 3}, {1, 9, 0}, {0, 0, -1}, {5, 1, 0}, {1, 2, 7}, {1, 2, 0}};
        for (int i = 0; i < bits.length; i++) {
            x.bits(1, 0, bits[i]);
            for (int what = 0; what < 3; what++) {
                Check.is("runs " + what + " of " + Integer.toBinaryString(bits[i]), due[i][what], x.runs(1, what));
            }
        }
        Check.refusedUnchanged(x, "runs 3", Check.ARGUMENT, () -> x.runs(1, 3));
        Check.refusedUnchanged(x, "runs -1", Check.ARGUMENT, () -> x.runs(1, -1));
        for (int m : NO_MASKS) {
            Check.refusedUnchanged(x, "runs of " + m, Check.INDEX, () -> x.runs(m, 9));
        }
        SliceColumns y = wide();
        y.mask(0, 2, 60, 130);
        Check.is("a run over words", 1, y.runs(0, 0));
        Check.is("a run over words, how long", 70, y.runs(0, 1));
        Check.is("a run over words, where", 60, y.runs(0, 2));
    }

    private static void alike() {
        SliceColumns x = Check.table("8: 1 1 1 - -", "8: 2 2 3 - 2");
        int[][] due = {{0, 0, 1}, {0, 1, 1}, {1, 0, 1}, {0, 2, 0}, {3, 4, 0}, {0, 4, 0}, {3, 3, 1}};
        for (int[] d : due) {
            Check.is("alike(" + d[0] + ", " + d[1] + ")", d[2], x.alike(d[0], d[1]));
        }
        for (int row : new int[] {-1, 5, 192, Integer.MAX_VALUE}) {
            Check.refusedUnchanged(x, "alike(" + row + ", 0)", Check.INDEX, () -> x.alike(row, 0));
            Check.refusedUnchanged(x, "alike(0, " + row + ")", Check.INDEX, () -> x.alike(0, row));
        }
        x.drop(0);
        Check.is("alike in fewer columns", 1, x.alike(0, 4));
        x.drop(0);
        Check.is("alike without columns", 1, x.alike(0, 3));
    }

    private static void row() {
        SliceColumns x = wide();
        x.bits(1, 0, 0b10100);
        x.bits(1, 2, 2);
        int[] k = {-1, 0, 1, 2, 3, -2, Integer.MIN_VALUE, Integer.MAX_VALUE};
        int[] due = {3, 2, 4, 129, -1, -1, -1, -1};
        for (int i = 0; i < k.length; i++) {
            Check.is("row(1, " + k[i] + ")", due[i], x.row(1, k[i]));
        }
        for (int m : NO_MASKS) {
            Check.refusedUnchanged(x, "row of " + m, Check.INDEX, () -> x.row(m, 0));
        }
    }

    private static void word() {
        SliceColumns x = wide();
        x.mask(1, 3, 64, 3);
        for (int w = 0; w < 3; w++) {
            Check.is("word(1, " + w + ")", 8, x.word(1, w));
        }
        for (int w : new int[] {-1, 3, Integer.MIN_VALUE}) {
            Check.refusedUnchanged(x, "word(0, " + w + ")", Check.INDEX, () -> x.word(0, w));
        }
        for (int m : NO_MASKS) {
            Check.refusedUnchanged(x, "word of " + m, Check.INDEX, () -> x.word(m, 0));
        }
    }

    /** "A MASK that is made anew from itself: by what it was." */
    private static void madeFromItself() {
        SliceColumns x = Check.table("8: 3 1 3 - 9", "8: 2 2 2 2 2");
        x.move(0, 0, 1);
        Check.mask(x, "move to itself", 0, "1 2 3 4");
        x.move(0, 0, -2);
        Check.mask(x, "move to itself", 0, "0 1 2");
        x.turn(0, 0);
        Check.mask(x, "turn of itself", 0, "3 4");
        x.turn(0, 0);
        x.compare(0, 0, 2, 3, 0);
        Check.mask(x, "compare under itself", 0, "0 2");
        x.firsts(0, 0);
        Check.mask(x, "firsts under itself", 0, "0");
        x.mask(0, 2, 1, 5);
        x.against(0, 0, 1, 5, 0);
        Check.mask(x, "against under itself", 0, "2 4");
        x.top(0, 0, 0, 1);
        Check.mask(x, "top under itself", 0, "4");
        x.mask(0, 2, 1, 5);
        x.empty(0, 0, 0);
        Check.mask(x, "empty under itself", 0, "3");
        x.mask(0, 2, 1, 5);
        x.field(0, 0, 1, 1, 1, 0);
        Check.mask(x, "field under itself", 0, "2");
        x.mask(0, 2, 1, 5);
        x.mask(1, 2, 0, 2);
        x.join(0, 0, 1, 2);
        Check.mask(x, "join with itself", 0, "0 2 3 4");
        x.join(0, 0, 0, 2);
        Check.mask(x, "join of itself twice", 0, "");
    }
}
