/** Promise 53: remove. */
public final class Promise53RemoveTest {
    public static void main(String[] args) {
        Promise p = Promise.number(53);
        p.says("ROWS of a MASK go:", Promise53RemoveTest::inAllColumns);
        p.says("ROWS of a MASK go:", Promise53RemoveTest::inAllMasks);
        p.says("ROWS of a MASK go:", Promise53RemoveTest::overWords);
        p.says("ROWS of a MASK go:", Promise53RemoveTest::noneAndAll);
        p.says("ROWS of a MASK go:", Promise53RemoveTest::nothingOfThemIsLeft);
        p.says("ROWS of a MASK go:", Promise53RemoveTest::imagesStay);
        p.says("how many are left.", Promise53RemoveTest::howManyAreLeft);
        p.says("IndexOutOfBoundsException.", Promise53RemoveTest::noSuchMask);
        p.end();
    }

    /** Mask 1 has rows 1, 3 and 4, mask 2 has rows 0, 4 and 5. */
    private static Run six() {
        return Run.table("8: 3 1 - 2 3 -", "20: 10 11 12 13 - 15").call("bits(1, 0, 26)").call("bits(2, 0, 49)");
    }

    private static void inAllColumns() {
        six().due("remove(1)", 3).column(0, "3 - -").column(1, "10 12 15").due("has(1)", 2).due("width(1, 0)", 20)
                .refused("get(0, 3)", Run.INDEX);
        Run run = Run.rows(3);
        for (int c = 0; c < 6; c++) {
            run.call("column(" + (5 + c) + ")").call("set(" + c + ", 2, " + c + ")");
        }
        run.call("mask(1, 2, 0, 2)").due("remove(1)", 1);
        for (int c = 0; c < 6; c++) {
            run.column(c, Integer.toString(c)).due("width(" + c + ", 0)", 5 + c);
        }
    }

    private static void inAllMasks() {
        six().due("remove(1)", 3).mask(0, "0 1 2").mask(1, "").mask(2, "0 2").mask(7, "");
        Run run = Run.rows(6);
        for (int m = 0; m < 8; m++) {
            run.call("mask(" + m + ", 2, 3, 6)");
        }
        run.call("mask(0, 2, 0, 4)").due("remove(0)", 2).mask(0, "").mask(1, "0 1").mask(7, "0 1");
    }

    private static void overWords() {
        Run.ramp().call("mask(1, 2, 0, 1)").call("mask(2, 2, 64, 65)").call("mask(3, 2, 191, 192)")
                .due("remove(1)", 191)
                .mask(2, "63").mask(3, "190").due("get(0, 0)", 1).due("get(0, 63)", 64).due("get(0, 190)", 191)
                .call("mask(1, 3, 2, 0)").due("remove(1)", 95).mask(2, "31").mask(3, "").due("get(0, 94)", 190)
                .due("row(0, NONE)", 95);
    }

    private static void noneAndAll() {
        six().due("remove(7)", 6).like(six());
        six().due("remove(0)", 0).mask(0, "").mask(1, "").mask(2, "").due("has(1)", 2).due("has(2)", 0)
                .due("has(5)", 0).due("has(4)", 28).due("remove(0)", 0).due("rows(1)", 1).column(0, "-");
        Run.full(6, 8, 1).due("remove(0)", 0).due("has(0)", 0).due("has(1)", 6);
        new Run().due("remove(0)", 0);
    }

    /** What is called behind remove() answers as if the rows had never been, though they had other numbers. */
    private static void nothingOfThemIsLeft() {
        String[] calls = {"sort(0, false)", "sort(0, true)", "reverse()", "first(0)", "firsts(0, 0)", "add(0, 1, 0)",
            "plus(0, 1, false, 0)", "scale(0, 2, 0)", "shift(0, 1, 0)", "hold(0, 4, 5, 0)", "fill(0, 9, 0)",
            "copy(0, 1, 0)", "pick(0, 1, true, 0)", "wipe(0, 0)", "widen(0, 3)", "widen(1, 4)", "sum(1, 0)",
            "count(1, 0)", "kth(1, 0, -1)", "has(2)", "has(3)", "has(5)", "width(1, 2)", "width(1, 1)", "turn(0, 0)",
            "mask(0, 0, 0, 0)", "slice(1, 9, 0)", "rows(3)", "where(1, 0, 1000)", "upTo(1, 0, 0)", "rank(1, 0, 9, 2)",
            "set(0, 0, 1)", "clear(0, 0)", "swap(0, 1)", "drop(0)", "column(9)", "keep(0)", "compare(0, 1, 5, 9, 0)",
            "empty(0, 1, 0)", "move(0, 0, 0)", "top(0, 1, 0, 9)", "row(0, NONE)", "runs(0, 1)", "remove(0)"};
        for (String call : calls) {
            Run had = Run.table("8: 100 3 - 90", "20: 1000 7 - 2000").call("bits(1, 0, 13)").call("add(1, 1, 1)")
                    .call("remove(1)");
            had.sameAs(Run.table("8: 3", "20: 7"), call);
        }
    }

    private static void imagesStay() {
        six().call("keep(0)").due("remove(0)", 0).due("back(0)", 6).like(six());
    }

    private static void howManyAreLeft() {
        six().due("remove(1)", 3).due("has(0)", 3).due("remove(2)", 1).due("has(0)", 1).due("remove(0)", 0);
        Run.rows(192).call("mask(1, 2, 191, 192)").due("remove(1)", 191).due("rows(1)", 192);
    }

    private static void noSuchMask() {
        six().noMask("remove(%)");
        new Run().noMask("remove(%)");
    }
}
