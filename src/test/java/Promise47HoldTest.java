/** Promise 47: hold. */
public final class Promise47HoldTest {
    public static void main(String[] args) {
        Promise p = Promise.number(47);
        p.says("Numbers below low become low,", Promise47HoldTest::belowLow);
        p.says("those above high high:", Promise47HoldTest::aboveHigh);
        p.says("how many become others.", Promise47HoldTest::howManyBecomeOthers);
        p.says("Numbers below low become low,", Promise47HoldTest::underTheMask);
        p.says("Numbers below low become low,", Promise47HoldTest::otherColumnsStay);
        p.says("IndexOutOfBoundsException;", Promise47HoldTest::noSuchColumnOrMask);
        p.says("IllegalArgumentException: low is above high;", Promise47HoldTest::lowAboveHigh);
        p.says("IllegalArgumentException: low is above high;", Promise47HoldTest::lowAboveHighComesFirst);
        p.says("ArithmeticException: one of both does not FIT.", Promise47HoldTest::edgesOfEachWidth);
        p.says("ArithmeticException: one of both does not FIT.", Promise47HoldTest::evenIfNoneWouldBecomeIt);
        p.end();
    }

    private static void belowLow() {
        Run.table("8: 5 - -30 4 6").due("hold(0, 5, 127, 0)", 2).column(0, "5 - 5 5 6");
    }

    private static void aboveHigh() {
        Run.table("8: 5 - 30 4 6").due("hold(0, -128, 5, 0)", 2).column(0, "5 - 5 4 5");
    }

    private static void howManyBecomeOthers() {
        Run.table("8: 5 - -30 100").due("hold(0, -30, 100, 0)", 0).due("hold(0, -128, 127, 0)", 0)
                .due("hold(0, -29, 100, 0)", 1).due("hold(0, -29, 99, 0)", 1).column(0, "5 - -29 99")
                .due("hold(0, 3, 3, 0)", 3).column(0, "3 - 3 3").due("hold(0, 3, 3, 0)", 0);
        Run.table("63: LEAST MOST").due("hold(0, LEAST, MOST, 0)", 0).due("hold(0, MOST, MOST, 0)", 1)
                .due("hold(0, LEAST, LEAST, 0)", 2);
        Run.full(1, 8, 9).due("hold(0, 0, 8, 0)", 192).due("get(0, 191)", 8);
    }

    private static void otherColumnsStay() {
        Run.table("8: 100 - 3", "8: 1 2 9").due("hold(1, 2, 5, 0)", 2).column(0, "100 - 3").column(1, "2 2 5");
    }

    private static void underTheMask() {
        Run.table("8: 5 - -30 100", "8: 9 9 9 9").call("mask(1, 2, 0, 3)").due("hold(0, 6, 10, 1)", 2)
                .column(0, "6 - 6 100").column(1, "9 9 9 9").due("hold(0, 0, 0, 7)", 0).column(0, "6 - 6 100");
        Run.table("8: - -").due("hold(0, 1, 2, 0)", 0).column(0, "- -");
        Run.table("8:").due("hold(0, 1, 2, 0)", 0);
    }

    private static void noSuchColumnOrMask() {
        Run.table("8: 1").noColumn("hold(%, 0, 1, 0)").noMask("hold(0, 0, 1, %)").noColumn("hold(%, 2, 1, 0)")
                .noMask("hold(0, 2, 1, %)").noColumn("hold(%, 0, 128, 0)").noMask("hold(0, 0, 128, %)");
        new Run().noColumn("hold(%, 0, 1, 0)");
    }

    private static void lowAboveHigh() {
        Run.table("8: 1 9").refused("hold(0, 4, 3, 0)", Run.ARGUMENT).refused("hold(0, 127, -128, 0)", Run.ARGUMENT)
                .refused("hold(0, 4, 3, 7)", Run.ARGUMENT).due("hold(0, 4, 4, 0)", 2);
        Run.table("8:").refused("hold(0, 4, 3, 0)", Run.ARGUMENT);
    }

    private static void lowAboveHighComesFirst() {
        Run.table("8: 1 9").refused("hold(0, 129, 128, 0)", Run.ARGUMENT).refused("hold(0, 128, 0, 0)", Run.ARGUMENT)
                .refused("hold(0, 0, -129, 0)", Run.ARGUMENT).refused("hold(0, MAX, MIN, 0)", Run.ARGUMENT);
    }

    private static void edgesOfEachWidth() {
        for (int width = 2; width <= 63; width++) {
            long least = -(1L << (width - 1));
            long most = (1L << (width - 1)) - 1;
            Run.table(width + ": 0 1").due("hold(0, " + least + ", " + most + ", 0)", 0)
                    .doesNotFit("hold(0, " + (least - 1) + ", " + most + ", 0)")
                    .doesNotFit("hold(0, " + least + ", " + (most + 1) + ", 0)")
                    .doesNotFit("hold(0, " + (most + 1) + ", " + (most + 1) + ", 0)")
                    .doesNotFit("hold(0, " + (least - 1) + ", " + (least - 1) + ", 0)")
                    .doesNotFit("hold(0, MIN, MAX, 0)").column(0, "0 1").due("has(6)", 5);
        }
    }

    private static void evenIfNoneWouldBecomeIt() {
        Run.table("8: 1 -").doesNotFit("hold(0, 0, 128, 0)").doesNotFit("hold(0, -129, 5, 0)")
                .doesNotFit("hold(0, 0, 128, 7)").doesNotFit("hold(0, -129, 0, 7)");
        Run.table("8: - -").doesNotFit("hold(0, 0, 128, 0)");
        Run.table("8:").doesNotFit("hold(0, 0, 128, 0)").doesNotFit("hold(0, -129, 0, 0)");
    }
}
