/** Promise 7: get. */
public final class Promise07GetTest {
    public static void main(String[] args) {
        Promise p = Promise.number(7);
        p.says("The number of a CELL;", Promise07GetTest::theNumber);
        p.says("NOTHING of an EMPTY one.", Promise07GetTest::nothingOfAnEmptyOne);
        p.says("IndexOutOfBoundsException.", Promise07GetTest::noSuchCell);
        p.end();
    }

    private static void theNumber() {
        Run.table("2: -2 1 0", "63: LEAST MOST -1").due("get(0, 0)", -2).due("get(0, 1)", 1).due("get(0, 2)", 0)
                .due("get(1, 0)", Run.LEAST).due("get(1, 1)", Run.MOST).due("get(1, 2)", -1);
        Run.ramp().due("get(0, 0)", 0).due("get(0, 64)", 64).due("get(0, 191)", 191);
    }

    private static void nothingOfAnEmptyOne() {
        Run.table("2: 0 -", "63: - -1").due("get(0, 1)", Long.MIN_VALUE).due("get(1, 0)", Long.MIN_VALUE)
                .due("get(0, 0)", 0).due("get(1, 1)", -1);
    }

    private static void noSuchCell() {
        Run.table("8: 1 -", "9: 2 3").noColumn("get(%, 0)").noRow("get(0, %)").noRow("get(2, %)");
        new Run().noColumn("get(%, 0)");
        Run.table("8:").noRow("get(0, %)");
        Run.full(6, 8, 0).noColumn("get(%, 191)").noRow("get(5, %)");
    }
}
