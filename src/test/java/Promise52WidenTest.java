/** Promise 52: widen. */
public final class Promise52WidenTest {
    public static void main(String[] args) {
        Promise p = Promise.number(52);
        p.says("A COLUMN has another WIDTH:", Promise52WidenTest::anotherWidth);
        p.says("A COLUMN has another WIDTH:", Promise52WidenTest::whatFitsThen);
        p.says("what it was.", Promise52WidenTest::whatItWas);
        p.says("IndexOutOfBoundsException;", Promise52WidenTest::noSuchColumn);
        p.says("IllegalArgumentException;", Promise52WidenTest::noSuchWidth);
        p.says("ArithmeticException: a number does not FIT.", Promise52WidenTest::edgesOfEachWidth);
        p.says("ArithmeticException: a number does not FIT.", Promise52WidenTest::emptyOnesAlwaysFit);
        p.says("ArithmeticException: a number does not FIT.", Promise52WidenTest::oneOfAll);
        p.end();
    }

    private static void anotherWidth() {
        Run.table("8: 5 - -8 7", "9: 1 2 3 4").due("widen(0, 63)", 8).due("width(0, 0)", 63).due("width(1, 0)", 9)
                .column(0, "5 - -8 7").due("widen(0, 4)", 63).due("width(0, 0)", 4).column(0, "5 - -8 7")
                .column(1, "1 2 3 4").due("has(4)", 13);
        Run.full(6, 8, -1).due("widen(5, 2)", 8).due("width(5, 0)", 2).due("get(5, 191)", -1).due("width(4, 0)", 8);
    }

    private static void whatFitsThen() {
        Run.table("8: 1").doesNotFit("set(0, 0, 128)").call("widen(0, 9)").due("set(0, 0, 128)", 0)
                .call("set(0, 0, 1)").call("widen(0, 2)").doesNotFit("set(0, 0, 2)");
    }

    private static void whatItWas() {
        Run.table("8: 1").due("widen(0, 8)", 8).due("widen(0, 2)", 8).due("widen(0, 63)", 2).due("widen(0, 3)", 63);
        Run.table("8:").due("widen(0, 2)", 8).due("widen(0, 63)", 2);
    }

    private static void noSuchColumn() {
        Run.table("8: 100").noColumn("widen(%, 5)").noColumn("widen(%, 1)").noColumn("widen(%, 64)");
        new Run().noColumn("widen(%, 5)");
    }

    /** Also where a number would not FIT. */
    private static void noSuchWidth() {
        Run.table("8: 100").noNumber("widen(0, %)", "1", "64", "0", "-1", "MIN", "MAX").due("width(0, 0)", 8);
        Run.table("8:").noNumber("widen(0, %)", "1", "64");
    }

    private static void edgesOfEachWidth() {
        for (int width = 2; width <= 62; width++) {
            long least = -(1L << (width - 1));
            long most = (1L << (width - 1)) - 1;
            String widen = "widen(0, " + width + ")";
            Run.table("63: " + least + " " + most).due(widen, 63).column(0, least + " " + most)
                    .due("width(0, 0)", width);
            Run.table("63: 0 " + (least - 1)).doesNotFit(widen).due("width(0, 0)", 63);
            Run.table("63: " + (most + 1) + " 0").doesNotFit(widen).due("width(0, 0)", 63);
        }
        Run.table("63: LEAST MOST").due("widen(0, 63)", 63).doesNotFit("widen(0, 62)");
    }

    private static void emptyOnesAlwaysFit() {
        Run.table("63: - - -").due("widen(0, 2)", 63).column(0, "- - -");
        Run.table("8: 100").call("clear(0, 0)").due("widen(0, 2)", 8);
        // What a row had that has gone since does not count.
        Run.table("8: 1 100").call("mask(1, 2, 1, 2)").call("remove(1)").due("widen(0, 2)", 8);
    }

    private static void oneOfAll() {
        Run.table("20: 1000 - 0", "20: 0 3 -").due("widen(1, 3)", 20).doesNotFit("widen(0, 3)")
                .doesNotFit("widen(1, 2)");
        Run.table("20: - 0", "20: 8 0").doesNotFit("widen(1, 4)").due("widen(0, 2)", 20).due("widen(1, 5)", 20);
        Run.full(1, 8, 1).call("set(0, 191, 2)").doesNotFit("widen(0, 2)").due("widen(0, 3)", 8);
        Run.full(1, 8, 1).call("set(0, 0, -3)").doesNotFit("widen(0, 2)").due("widen(0, 3)", 8);
    }
}
