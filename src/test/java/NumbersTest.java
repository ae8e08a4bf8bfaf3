/** Promises 26 to 42: numbers of a column under a mask. */
public final class NumbersTest {
    private static final long MOST = (1L << 62) - 1;
    private static final long LEAST = -(1L << 62);
    private static final long NOTHING = SliceColumns.NOTHING;

    public static void main(String[] args) {
        refusals();
        count();
        sum();
        mean();
        kth();
        share();
        upset();
        rank();
        unlike();
        ones();
        where();
        dot();
        steps();
        upTo();
        fold();
        spread();
        nearest();
        box();
        Check.end();
    }

    private interface Ask {
        long answer(SliceColumns x, int column, int under);
    }

    /** No such column or mask comes ahead of all else that is wrong. */
    private static void refusals() {
        askRefusals("count", (x, c, m) -> x.count(c, m));
        askRefusals("sum", (x, c, m) -> x.sum(c, m));
        askRefusals("mean", (x, c, m) -> x.mean(c, m, 9));
        askRefusals("kth", (x, c, m) -> x.kth(c, m, 0));
        askRefusals("share", (x, c, m) -> x.share(c, m, 3, 0));
        askRefusals("upset", (x, c, m) -> x.upset(c, m));
        askRefusals("rank", (x, c, m) -> x.rank(c, m, 0, 9));
        askRefusals("unlike", (x, c, m) -> x.unlike(c, m, 9));
        askRefusals("ones", (x, c, m) -> x.ones(c, 0, m));
        askRefusals("where", (x, c, m) -> x.where(c, m, 0));
        askRefusals("dot", (x, c, m) -> x.dot(c, 0, m));
        askRefusals("dot, other", (x, c, m) -> x.dot(0, c, m));
        askRefusals("steps", (x, c, m) -> x.steps(c, m));
        askRefusals("upTo", (x, c, m) -> x.upTo(c, 0, m));
        askRefusals("fold", (x, c, m) -> x.fold(c, m, 9));
        askRefusals("spread", (x, c, m) -> x.spread(c, m));
        askRefusals("nearest", (x, c, m) -> x.nearest(c, m, 0));
        askRefusals("box", (x, c, m) -> x.box(c, m, 0, 0, -1));
    }

    private static void askRefusals(String name, Ask ask) {
        SliceColumns x = Check.table("63: " + MOST + " " + MOST + " " + LEAST + " " + LEAST + " " + LEAST, "8: 1 2 3");
        for (int c : new int[] {-1, 2, 6, Integer.MIN_VALUE, Integer.MAX_VALUE}) {
            Check.refusedUnchanged(x, name + " of column " + c, Check.INDEX, () -> ask.answer(x, c, 0));
        }
        for (int m : new int[] {-1, 8, Integer.MIN_VALUE, Integer.MAX_VALUE}) {
            Check.refusedUnchanged(x, name + " under " + m, Check.INDEX, () -> ask.answer(x, 0, m));
        }
    }

    private static void noSuch(SliceColumns x, String what, Check.Call call) {
        Check.refusedUnchanged(x, what, Check.ARGUMENT, call);
    }

    private static void noLong(SliceColumns x, String what, Check.Call call) {
        Check.refusedUnchanged(x, what, Check.ARITHMETIC, call);
    }

    private static void count() {
        SliceColumns x = Check.table("8: 5 - 0 -3", "8: - - - -");
        x.mask(1, 2, 0, 3);
        Check.is("count", 3, x.count(0, 0));
        Check.is("count under some", 2, x.count(0, 1));
        Check.is("count under none", 0, x.count(0, 7));
        Check.is("count of an empty column", 0, x.count(1, 0));
    }

    private static void sum() {
        SliceColumns x = Check.table("8: 5 - 0 -30", "8: - - - -");
        x.mask(1, 2, 0, 3);
        Check.is("sum", -25, x.sum(0, 0));
        Check.is("sum under some", 5, x.sum(0, 1));
        Check.is("sum under none", 0, x.sum(0, 7));
        Check.is("sum of an empty column", 0, x.sum(1, 0));

        SliceColumns y = Check.table("63: " + MOST + " " + MOST + " 1 1 " + LEAST);
        y.mask(1, 2, 0, 3);
        Check.is("the greatest long", Long.MAX_VALUE, y.sum(0, 1));
        y.mask(1, 2, 0, 4);
        noLong(y, "one more", () -> y.sum(0, 1));
        Check.is("through what is no long", LEAST + 2 * MOST + 2, y.sum(0, 0));
        SliceColumns z = Check.table("63: " + LEAST + " " + LEAST + " -1 " + MOST);
        z.mask(1, 2, 0, 2);
        Check.is("the least long", Long.MIN_VALUE, z.sum(0, 1));
        z.mask(1, 2, 0, 3);
        noLong(z, "one less", () -> z.sum(0, 1));
        Check.is("back to a long", LEAST - 2, z.sum(0, 0));
        SliceColumns all = full(LEAST);
        noLong(all, "192 least ones", () -> all.sum(0, 0));
        SliceColumns four = Check.table("63: " + LEAST + " " + LEAST + " " + LEAST + " " + LEAST);
        noLong(four, "what would wrap to 0", () -> four.sum(0, 0));
    }

    private static SliceColumns full(long v) {
        SliceColumns x = Check.table("63:");
        x.rows(64);
        x.rows(64);
        x.rows(64);
        x.mask(0, 0, 0, 0);
        x.fill(0, v, 0);
        return x;
    }

    private static void mean() {
        SliceColumns x = Check.table("8: 5 - 6 -18 0");
        x.mask(1, 2, 0, 3);
        Check.is("mean below 0", -2, x.mean(0, 0, 0));
        Check.is("what is left", 1, x.mean(0, 0, 1));
        Check.is("mean", 5, x.mean(0, 1, 0));
        Check.is("what is left", 1, x.mean(0, 1, 1));
        x.mask(1, 2, 0, 1);
        Check.is("mean of one", 5, x.mean(0, 1, 0));
        Check.is("what is left of one", 0, x.mean(0, 1, 1));
        noSuch(x, "mean what 2", () -> x.mean(0, 0, 2));
        noSuch(x, "mean what -1", () -> x.mean(0, 0, -1));
        noSuch(x, "mean what 2 without any", () -> x.mean(0, 7, 2));
        Check.refusedUnchanged(x, "mean without any", Check.STATE, () -> x.mean(0, 7, 0));
        Check.refusedUnchanged(x, "what is left without any", Check.STATE, () -> x.mean(0, 7, 1));
        SliceColumns most = full(MOST);
        Check.is("mean of 192 greatest ones", MOST, most.mean(0, 0, 0));
        Check.is("what is left", 0, most.mean(0, 0, 1));
        most.set(0, 100, MOST - 1);
        Check.is("mean of 191 greatest ones and one less", MOST - 1, most.mean(0, 0, 0));
        Check.is("what is left", 191, most.mean(0, 0, 1));
        SliceColumns least = full(LEAST);
        Check.is("mean of 192 least ones", LEAST, least.mean(0, 0, 0));
        least.set(0, 3, LEAST + 7);
        Check.is("what is left", 7, least.mean(0, 0, 1));
    }

    private static void kth() {
        SliceColumns x = Check.table("8: 5 - -3 5 127 -128");
        x.mask(1, 2, 0, 4);
        long[] rising = {-128, -3, 5, 5, 127};
        for (int k = 0; k < 5; k++) {
            Check.is("kth " + k, rising[k], x.kth(0, 0, k));
            Check.is("kth " + (k - 5), rising[k], x.kth(0, 0, k - 5));
        }
        Check.is("kth 5", NOTHING, x.kth(0, 0, 5));
        Check.is("kth -6", NOTHING, x.kth(0, 0, -6));
        Check.is("kth far", NOTHING, x.kth(0, 0, Integer.MAX_VALUE));
        Check.is("kth far down", NOTHING, x.kth(0, 0, Integer.MIN_VALUE));
        Check.is("kth under some", -3, x.kth(0, 1, 0));
        Check.is("kth -1 under some", 5, x.kth(0, 1, -1));
        Check.is("kth under none", NOTHING, x.kth(0, 7, 0));
        Check.is("kth -1 under none", NOTHING, x.kth(0, 7, -1));
    }

    private static void share() {
        SliceColumns x = Check.table("8: 40 - 10 30 20");
        int[][] due = {{0, 1, 10}, {1, 4, 10}, {1, 1000, 10}, {251, 1000, 20}, {1, 2, 20}, {501, 1000, 30},
            {3, 4, 30}, {751, 1000, 40}, {1, 1, 40}, {1000, 1000, 40}, {0, 1000, 10}, {1, 3, 20}, {2, 3, 30}};
        for (int[] d : due) {
            Check.is("share " + d[0] + " by " + d[1], d[2], x.share(0, 0, d[0], d[1]));
        }
        x.mask(1, 2, 0, 3);
        Check.is("share under some", 10, x.share(0, 1, 1, 2));
        Check.is("share under none", NOTHING, x.share(0, 7, 1, 2));
        Check.is("share 0 under none", NOTHING, x.share(0, 7, 0, 2));
        int[][] wrong = {{0, 0}, {0, -1}, {0, 1001}, {-1, 1}, {2, 1}, {1001, 1000}, {Integer.MIN_VALUE, 5},
            {0, Integer.MIN_VALUE}, {Integer.MAX_VALUE, Integer.MAX_VALUE}};
        for (int[] w : wrong) {
            noSuch(x, "share " + w[0] + " by " + w[1], () -> x.share(0, 0, w[0], w[1]));
        }
        SliceColumns all = full(1);
        for (int row = 0; row < 192; row++) {
            all.set(0, row, 191 - row);
        }
        Check.is("share 999 by 1000 of 192", 191, all.share(0, 0, 999, 1000));
        Check.is("share 994 by 1000 of 192", 190, all.share(0, 0, 994, 1000));
    }

    private static void upset() {
        SliceColumns x = Check.table("8: 3 1 - 2 2 0", "8: 1 - 2 2 3 3");
        Check.is("upset", 7, x.upset(0, 0));
        Check.is("upset of a rising one", 0, x.upset(1, 0));
        x.mask(1, 2, 0, 4);
        Check.is("upset under some", 2, x.upset(0, 1));
        Check.is("upset under none", 0, x.upset(0, 7));
        SliceColumns all = full(0);
        for (int row = 0; row < 192; row++) {
            all.set(0, row, -row);
        }
        Check.is("upset of a falling one", 192 * 191 / 2, all.upset(0, 0));
        Check.is("numbers stay", -7, all.get(0, 7));
    }

    private static void rank() {
        SliceColumns x = Check.table("8: 5 - -3 5 127 -128");
        long[][] due = {{5, 2, 2, 1}, {4, 2, 0, 3}, {-128, 0, 1, 4}, {127, 4, 1, 0}, {Long.MIN_VALUE, 0, 0, 5},
            {Long.MAX_VALUE, 5, 0, 0}, {1000, 5, 0, 0}};
        for (long[] d : due) {
            for (int what = 0; what < 3; what++) {
                Check.is("rank of " + d[0] + " what " + what, d[what + 1], x.rank(0, 0, d[0], what));
            }
        }
        x.mask(1, 2, 0, 4);
        Check.is("rank under some", 1, x.rank(0, 1, 5, 0));
        Check.is("rank under none", 0, x.rank(0, 7, 5, 1));
        noSuch(x, "rank what 3", () -> x.rank(0, 0, 0, 3));
        noSuch(x, "rank what -1", () -> x.rank(0, 0, 0, -1));
    }

    private static void unlike() {
        SliceColumns x = Check.table("8: 5 - -3 5 7 -3 9");
        long[] due = {4, -3, 2};
        long[] without = {0, NOTHING, 0};
        for (int what = 0; what < 3; what++) {
            Check.is("unlike what " + what, due[what], x.unlike(0, 0, what));
            Check.is("unlike under none, what " + what, without[what], x.unlike(0, 7, what));
        }
        x.set(0, 1, 5);
        Check.is("most often", 5, x.unlike(0, 0, 1));
        Check.is("how often", 3, x.unlike(0, 0, 2));
        x.mask(1, 2, 4, 7);
        Check.is("unlike under some", 3, x.unlike(0, 1, 0));
        Check.is("most often, each once: the least", -3, x.unlike(0, 1, 1));
        noSuch(x, "unlike what 3", () -> x.unlike(0, 0, 3));
        noSuch(x, "unlike what -1", () -> x.unlike(0, 0, -1));
    }

    private static void ones() {
        SliceColumns x = Check.table("4: 5 - -8 -1 3", "63: -1 - 0 " + MOST + " " + LEAST);
        int[] due = {3, 2, 2, 2};
        for (int bit = 0; bit < 4; bit++) {
            Check.is("ones of bit " + bit, due[bit], x.ones(0, bit, 0));
        }
        Check.is("ones of bit 62", 2, x.ones(1, 62, 0));
        Check.is("ones of bit 61", 2, x.ones(1, 61, 0));
        x.mask(1, 2, 0, 3);
        Check.is("ones under some", 1, x.ones(0, 0, 1));
        Check.is("ones under none", 0, x.ones(0, 0, 7));
        for (int bit : new int[] {-1, 4, 63, Integer.MAX_VALUE, Integer.MIN_VALUE}) {
            Check.refusedUnchanged(x, "ones of bit " + bit, Check.INDEX, () -> x.ones(0, bit, 0));
        }
        Check.refusedUnchanged(x, "ones of bit 63", Check.INDEX, () -> x.ones(1, 63, 0));
    }

    private static void where() {
        SliceColumns x = Check.table("8: 5 - -3 5 -3");
        x.mask(1, 2, 1, 5);
        Check.is("where 5", 0, x.where(0, 0, 5));
        Check.is("where 5 under some", 3, x.where(0, 1, 5));
        Check.is("where -3", 2, x.where(0, 0, -3));
        Check.is("where 4", -1, x.where(0, 0, 4));
        Check.is("where NOTHING", -1, x.where(0, 0, NOTHING));
        Check.is("where under none", -1, x.where(0, 7, 5));
    }

    private static void dot() {
        SliceColumns x = Check.table("8: 5 - -3 5 7", "20: 100 3 1000 - -1", "8: - - - - -");
        Check.is("dot", 500 - 3000 - 7, x.dot(0, 1, 0));
        Check.is("dot the other way", 500 - 3000 - 7, x.dot(1, 0, 0));
        Check.is("dot with itself", 25 + 9 + 25 + 49, x.dot(0, 0, 0));
        x.mask(1, 2, 0, 3);
        Check.is("dot under some", -2500, x.dot(0, 1, 1));
        Check.is("dot with an empty one", 0, x.dot(0, 2, 0));
        greatDots();
    }

    private static void greatDots() {
        SliceColumns x = Check.table("63: " + MOST + " " + LEAST, "63: " + MOST + " " + LEAST);
        x.mask(1, 2, 0, 1);
        x.mask(2, 2, 1, 2);
        noLong(x, "most by most", () -> x.dot(0, 1, 1));
        noLong(x, "least by least", () -> x.dot(0, 1, 2));
        noLong(x, "both", () -> x.dot(0, 0, 0));
        // Great products of both signs that together are a long.
        SliceColumns y = Check.table("63: " + MOST + " " + MOST + " 3", "63: " + MOST + " " + -MOST + " -5");
        Check.is("what falls out", -15, y.dot(0, 1, 0));
        SliceColumns z = Check.table("63: " + MOST + " 1 1 " + LEAST, "4: 2 1 1 -2");
        z.mask(1, 2, 0, 2);
        Check.is("the greatest long", Long.MAX_VALUE, z.dot(0, 1, 1));
        z.mask(1, 2, 0, 3);
        noLong(z, "one more", () -> z.dot(0, 1, 1));
        SliceColumns w = Check.table("63: " + LEAST + " 1", "4: 2 -1");
        w.mask(1, 2, 0, 1);
        Check.is("the least long", Long.MIN_VALUE, w.dot(0, 1, 1));
        noLong(w, "one less", () -> w.dot(0, 1, 0));
        SliceColumns all = full(LEAST);
        noLong(all, "192 squares of the least", () -> all.dot(0, 0, 0));
        SliceColumns roots = Check.table("63: 3037000499 3037000500", "63: 3037000499 -3037000500");
        roots.mask(1, 2, 0, 1);
        roots.mask(2, 2, 1, 2);
        Check.is("the greatest square", 9223372030926249001L, roots.dot(0, 0, 1));
        noLong(roots, "the next square", () -> roots.dot(0, 0, 2));
        noLong(roots, "the next square below 0", () -> roots.dot(0, 1, 2));
    }

    private static void steps() {
        SliceColumns x = Check.table("8: 5 - -3 -3 7", "8: - - - - 1");
        Check.is("steps", 18, x.steps(0, 0));
        Check.is("steps of one", 0, x.steps(1, 0));
        Check.is("steps under none", 0, x.steps(0, 7));
        x.bits(1, 0, 0b10011);
        Check.is("steps under some", 2, x.steps(0, 1));
        SliceColumns y = Check.table("63: " + LEAST + " " + MOST + " " + MOST + " " + (MOST - 1));
        y.mask(1, 2, 0, 3);
        Check.is("the greatest long", Long.MAX_VALUE, y.steps(0, 1));
        noLong(y, "one more", () -> y.steps(0, 0));
        y.set(0, 2, LEAST);
        y.set(0, 3, LEAST + 2);
        noLong(y, "what would wrap to 0", () -> y.steps(0, 0));
    }

    private static void upTo() {
        SliceColumns x = Check.table("8: 5 - -3 4");
        long[] due = {5, 5, 2, 6};
        for (int row = 0; row < 4; row++) {
            Check.is("upTo row " + row, due[row], x.upTo(0, row, 0));
        }
        x.mask(1, 2, 1, 4);
        Check.is("upTo under some", -3, x.upTo(0, 2, 1));
        Check.is("upTo row 0 under some", 0, x.upTo(0, 0, 1));
        for (int row : new int[] {-1, 4, 192, Integer.MAX_VALUE}) {
            Check.refusedUnchanged(x, "upTo row " + row, Check.INDEX, () -> x.upTo(0, row, 0));
        }
        SliceColumns y = Check.table("63: " + MOST + " " + MOST + " 2 -1");
        Check.is("upTo row 1", 2 * MOST, y.upTo(0, 1, 0));
        noLong(y, "upTo row 2", () -> y.upTo(0, 2, 0));
        Check.is("upTo row 3", Long.MAX_VALUE, y.upTo(0, 3, 0));
    }

    private static void fold() {
        SliceColumns x = Check.table("8: 7 - -3 5", "8: - - - -");
        long[] due = {7 & -3 & 5, 7 | -3 | 5, 7 ^ -3 ^ 5};
        long[] without = {-1, 0, 0};
        for (int how = 0; how < 3; how++) {
            Check.is("fold how " + how, due[how], x.fold(0, 0, how));
            Check.is("fold of an empty column, how " + how, without[how], x.fold(1, 0, how));
        }
        x.mask(1, 2, 3, 4);
        Check.is("fold under one", 5, x.fold(0, 1, 0));
        noSuch(x, "fold how 3", () -> x.fold(0, 0, 3));
        noSuch(x, "fold how -1", () -> x.fold(0, 0, -1));
    }

    private static void spread() {
        SliceColumns x = Check.table("8: 7 - -3 5", "63: " + MOST + " " + MOST + " " + MOST + " " + MOST, "9: - 4 - -");
        Check.is("spread", 3 * (49 + 9 + 25) - 81, x.spread(0, 0));
        Check.is("spread of like great ones", 0, x.spread(1, 0));
        Check.is("spread of one", 0, x.spread(2, 0));
        Check.is("spread under none", 0, x.spread(0, 7));
        x.set(1, 1, MOST - 1);
        Check.is("spread of great ones, one apart", 3, x.spread(1, 0));
        x.mask(1, 2, 0, 2);
        x.set(1, 1, MOST - 3037000499L);
        Check.is("the greatest square", 9223372030926249001L, x.spread(1, 1));
        x.set(1, 1, MOST - 3037000500L);
        noLong(x, "the next square", () -> x.spread(1, 1));
        x.set(1, 1, MOST - (1L << 32));
        noLong(x, "a square that would wrap to 0", () -> x.spread(1, 1));
        x.set(1, 1, LEAST);
        noLong(x, "the least and the most", () -> x.spread(1, 1));
        // Each couple is a long, all together not.
        SliceColumns y = Check.table("40: 0 3037000499 3037000499");
        noLong(y, "two great couples", () -> y.spread(0, 0));
        SliceColumns z = Check.table("40: 0 2147483648 2147483648");
        noLong(z, "just beyond the greatest long", () -> z.spread(0, 0));
        z.set(0, 2, 2147483647);
        Check.is("just below it", Math.addExact((1L << 62) + 2147483647L * 2147483647L, 1), z.spread(0, 0));
        SliceColumns all = full(MOST);
        for (int row = 0; row < 96; row++) {
            all.set(0, row, LEAST);
        }
        noLong(all, "192 outermost ones", () -> all.spread(0, 0));
    }

    private static void nearest() {
        SliceColumns x = Check.table("63: 10 - -4 6 " + MOST + " " + LEAST);
        long[][] due = {{7, 6}, {8, 6}, {9, 10}, {1, -4}, {2, 6}, {-4, -4}, {Long.MAX_VALUE, MOST},
            {Long.MIN_VALUE, LEAST}, {MOST / 2 + 4, 10}, {MOST / 2 + 6, MOST}, {MOST, MOST}, {LEAST + 1, LEAST}};
        for (long[] d : due) {
            Check.is("nearest to " + d[0], d[1], x.nearest(0, 0, d[0]));
        }
        x.mask(1, 2, 0, 4);
        Check.is("nearest to the greatest long", 10, x.nearest(0, 1, Long.MAX_VALUE));
        Check.is("nearest to the least long", -4, x.nearest(0, 1, Long.MIN_VALUE));
        Check.is("nearest under none", NOTHING, x.nearest(0, 7, 3));
        SliceColumns y = Check.table("63: " + LEAST + " " + MOST);
        Check.is("nearest to -1", LEAST, y.nearest(0, 0, -1));
        Check.is("nearest to 0", MOST, y.nearest(0, 0, 0));
        SliceColumns z = Check.table("8: 4 2 4");
        Check.is("of like near ones the lesser", 2, z.nearest(0, 0, 3));
    }

    private static void box() {
        SliceColumns x = Check.table("63: 10 - -4 6 " + MOST + " " + LEAST + " 0");
        Check.is("box 0", 2, x.box(0, 0, -4, 10, 0));
        Check.is("box 1", 2, x.box(0, 0, -4, 10, 1));
        Check.is("box 2", 0, x.box(0, 0, -4, 10, 2));
        Check.is("box of one", 1, x.box(0, 0, 6, 1, 0));
        Check.is("box of the next one", 0, x.box(0, 0, 6, 1, 1));
        Check.is("box from the least long", 0, x.box(0, 0, Long.MIN_VALUE, MOST, 0));
        Check.is("box 1 from the least long", 2, x.box(0, 0, Long.MIN_VALUE, 1L << 62, 1));
        Check.is("box to beyond longs", 4, x.box(0, 0, 0, Long.MAX_VALUE, 0));
        Check.is("box 1 from 0", 0, x.box(0, 0, 0, Long.MAX_VALUE, 1));
        Check.is("box beyond longs", 0, x.box(0, 0, 0, Long.MAX_VALUE, Integer.MAX_VALUE));
        Check.is("box far beyond the least long", 0,
                x.box(0, 0, Long.MIN_VALUE, Long.MAX_VALUE, Integer.MAX_VALUE));
        Check.is("box 1 from the least long, wide", 4, x.box(0, 0, Long.MIN_VALUE, Long.MAX_VALUE, 1));
        Check.is("box 2 from the least long, wide", 0, x.box(0, 0, Long.MIN_VALUE, Long.MAX_VALUE, 2));
        Check.is("box of the most", 1, x.box(0, 0, MOST, Long.MAX_VALUE, 0));
        // Bounds whose low 64 bits alone would lie among the numbers.
        Check.is("what would wrap", 0, x.box(0, 0, 0, 1L << 62, 4));
        Check.is("many small steps", 1, x.box(0, 0, -Integer.MAX_VALUE, 1, Integer.MAX_VALUE));
        x.mask(1, 2, 0, 3);
        Check.is("box under some", 1, x.box(0, 1, -4, 10, 0));
        noSuch(x, "box of step 0", () -> x.box(0, 0, 0, 0, 0));
        noSuch(x, "box of step -1", () -> x.box(0, 0, 0, -1, 0));
        noSuch(x, "box of the least step", () -> x.box(0, 0, 0, Long.MIN_VALUE, 0));
        noSuch(x, "box -1", () -> x.box(0, 0, 0, 1, -1));
        noSuch(x, "box far down", () -> x.box(0, 0, 0, 1, Integer.MIN_VALUE));
    }
}
