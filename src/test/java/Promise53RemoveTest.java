/** Promise 53: remove. */
public final class Promise53RemoveTest {
    public static void main(String[] args) {
        Promise p = Promise.number(53);
        p.says("ROWS of a MASK go:", Promise53RemoveTest::inAllColumns);
        p.says("ROWS of a MASK go:", Promise53RemoveTest::inAllMasks);
        p.says("ROWS of a MASK go:", Promise53RemoveTest::overWords);
        p.says("ROWS of a MASK go:", Promise53RemoveTest::noneAndAll);
        p.says("ROWS of a MASK go:", Promise53RemoveTest::imagesStay);
        p.says("how many are left.", Promise53RemoveTest::howManyAreLeft);
        p.says("IndexOutOfBoundsException.", Promise53RemoveTest::noSuchMask);
        p.end();
    }

    /** Mask 1 has rows 1, 3 and 4, mask 2 has rows 0, 4 and 5. */
    private static Run six() {
        return Run.table("8: 3 1 - 2 3 -", "20: 10 11 12 13 - 15").call("bits(1, 0, 26)").call("bits(2, 0, 49)");
    }

    private static void inAllColumns() {
        six().due("remove(1)", 3).column(0, "3 - -").column(1, "10 12 15").due("has(1)", 2).due("width(1, 0)", 20)
                .refused("get(0, 3)", Run.INDEX);
        Run run = Run.rows(3);
        for (int c = 0; c < 6; c++) {
            run.call("column(" + (5 + c) + ")").call("set(" + c + ", 2, " + c + ")");
        }
        run.call("mask(1, 2, 0, 2)").due("remove(1)", 1);
        for (int c = 0; c < 6; c++) {
            run.column(c, Integer.toString(c)).due("width(" + c + ", 0)", 5 + c);
        }
    }

    private static void inAllMasks() {
        six().due("remove(1)", 3).mask(0, "0 1 2").mask(1, "").mask(2, "0 2").mask(7, "");
        Run run = Run.rows(6);
        for (int m = 0; m < 8; m++) {
            run.call("mask(" + m + ", 2, 3, 6)");
        }
        run.call("mask(0, 2, 0, 4)").due("remove(0)", 2).mask(0, "").mask(1, "0 1").mask(7, "0 1");
    }

    private static void overWords() {
        Run.ramp().call("mask(1, 2, 0, 1)").call("mask(2, 2, 64, 65)").call("mask(3, 2, 191, 192)")
                .due("remove(1)", 191)
                .mask(2, "63").mask(3, "190").due("get(0, 0)", 1).due("get(0, 63)", 64).due("get(0, 190)", 191)
                .call("mask(1, 3, 2, 0)").due("remove(1)", 95).mask(2, "31").mask(3, "").due("get(0, 94)", 190)
                .due("row(0, NONE)", 95);
    }

    private static void noneAndAll() {
        six().due("remove(7)", 6).like(six());
        six().due("remove(0)", 0).mask(0, "").mask(1, "").mask(2, "").due("has(1)", 2).due("has(2)", 0)
                .due("has(5)", 0).due("has(4)", 28).due("remove(0)", 0).due("rows(1)", 1).column(0, "-");
        Run.full(6, 8, 1).due("remove(0)", 0).due("has(0)", 0).due("has(1)", 6);
        new Run().due("remove(0)", 0);
    }

    private static void imagesStay() {
        six().call("keep(0)").due("remove(0)", 0).due("back(0)", 6).like(six());
    }

    private static void howManyAreLeft() {
        six().due("remove(1)", 3).due("has(0)", 3).due("remove(2)", 1).due("has(0)", 1).due("remove(0)", 0);
        Run.rows(192).call("mask(1, 2, 191, 192)").due("remove(1)", 191).due("rows(1)", 192);
    }

    private static void noSuchMask() {
        six().noMask("remove(%)");
        new Run().noMask("remove(%)");
    }
}
