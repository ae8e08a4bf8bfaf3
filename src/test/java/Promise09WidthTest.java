/** Promise 9: width. */
public final class Promise09WidthTest {
    public static void main(String[] args) {
        Promise p = Promise.number(9);
        p.says("WIDTH of a COLUMN (what 0),", Promise09WidthTest::theWidth);
        p.says("its numbers (1),", Promise09WidthTest::howManyNumbers);
        p.says("the least WIDTH by which all of these would FIT (2;", Promise09WidthTest::leastWidthAtEachEdge);
        p.says("the least WIDTH by which all of these would FIT (2;", Promise09WidthTest::leastWidthOfAll);
        p.says("2 without any).", Promise09WidthTest::twoWithoutAny);
        p.says("IndexOutOfBoundsException;", Promise09WidthTest::noSuchColumn);
        p.says("IllegalArgumentException: another what.", Promise09WidthTest::anotherWhat);
        p.end();
    }

    private static void theWidth() {
        Run.table("2: 0", "63: 0").due("width(0, 0)", 2).due("width(1, 0)", 63).call("widen(0, 3)")
                .due("width(0, 0)", 3);
    }

    private static void howManyNumbers() {
        Run.table("8: - - -", "8: 0 - -1").due("width(0, 1)", 0).due("width(1, 1)", 2);
        Run.table("8:").due("width(0, 1)", 0);
        Run.full(1, 8, 0).due("width(0, 1)", 192).call("clear(0, 191)").due("width(0, 1)", 191);
    }

    private static void leastWidthAtEachEdge() {
        for (int width = 2; width <= 63; width++) {
            long least = -(1L << (width - 1));
            long most = (1L << (width - 1)) - 1;
            Run.table("63: " + least).due("width(0, 2)", width);
            Run.table("63: " + most).due("width(0, 2)", width);
            if (width < 63) {
                Run.table("63: " + (least - 1)).due("width(0, 2)", width + 1);
                Run.table("63: " + (most + 1)).due("width(0, 2)", width + 1);
            }
        }
    }

    private static void leastWidthOfAll() {
        Run.table("20: 1000 - 0", "20: 0 3 -").due("width(0, 2)", 11).due("width(1, 2)", 3);
        Run.table("20: - 0 0", "20: 8 0 -").due("width(0, 2)", 2).due("width(1, 2)", 5);
        Run.table("63: 0 - -2 1").due("width(0, 2)", 2).call("set(0, 0, 2)").due("width(0, 2)", 3)
                .call("set(0, 1, -129)").due("width(0, 2)", 9).call("clear(0, 1)").due("width(0, 2)", 3);
        Run.full(1, 63, -2).due("width(0, 2)", 2).call("set(0, 191, LEAST)").due("width(0, 2)", 63);
    }

    private static void twoWithoutAny() {
        Run.table("63:").due("width(0, 2)", 2);
        Run.table("63: - - -").due("width(0, 2)", 2);
    }

    private static void noSuchColumn() {
        Run.table("8: 1", "9: 1").noColumn("width(%, 0)").noColumn("width(%, 3)").noColumn("width(%, -1)");
        new Run().noColumn("width(%, 0)");
    }

    private static void anotherWhat() {
        Run.table("8: 1").noNumber("width(0, %)", "-1", "3", "MIN", "MAX");
    }
}
