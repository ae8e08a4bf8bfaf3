/** Promise 51: wipe. */
public final class Promise51WipeTest {
    public static void main(String[] args) {
        Promise p = Promise.number(51);
        p.says("CELLS become EMPTY:", Promise51WipeTest::underTheMask);
        p.says("how many had a number.", Promise51WipeTest::howManyHadANumber);
        p.says("IndexOutOfBoundsException.", Promise51WipeTest::noSuchColumnOrMask);
        p.end();
    }

    private static void underTheMask() {
        Run.table("8: 5 - -3 7", "8: 1 2 3 4").call("mask(1, 2, 0, 3)").due("wipe(0, 1)", 2).column(0, "- - - 7")
                .column(1, "1 2 3 4").due("wipe(0, 7)", 0).column(0, "- - - 7").mask(1, "0 1 2").due("has(0)", 4);
    }

    private static void howManyHadANumber() {
        Run.table("8: 1 -", "8: - 1").due("wipe(1, 0)", 1).column(0, "1 -").column(1, "- -");
        Run.table("63: LEAST - 0 MOST").due("wipe(0, 0)", 3).due("wipe(0, 0)", 0).column(0, "- - - -");
        Run.table("8:").due("wipe(0, 0)", 0);
        Run.full(6, 8, 0).due("wipe(5, 0)", 192).due("get(5, 0)", Run.NOTHING).due("get(5, 191)", Run.NOTHING)
                .due("has(2)", 5 * 192);
    }

    private static void noSuchColumnOrMask() {
        Run.table("8: 1").noColumn("wipe(%, 0)").noMask("wipe(0, %)");
        new Run().noColumn("wipe(%, 0)");
    }
}
