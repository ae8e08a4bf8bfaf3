/** Promise 43: add. */
public final class Promise43AddTest {
    public static void main(String[] args) {
        Promise p = Promise.number(43);
        p.says("v is added to each number:", Promise43AddTest::underTheMask);
        p.says("v is added to each number:", Promise43AddTest::otherColumnsStay);
        p.says("v is added to each number:", Promise43AddTest::edgesOfEachWidth);
        p.says("how many numbers there are.", Promise43AddTest::howMany);
        p.says("IndexOutOfBoundsException;", Promise43AddTest::noSuchColumnOrMask);
        p.says("ArithmeticException.", Promise43AddTest::allOrNone);
        p.says("ArithmeticException.", Promise43AddTest::edgesOfALong);
        p.says("ArithmeticException.", Promise43AddTest::nothingToAddTo);
        p.end();
    }

    private static void otherColumnsStay() {
        Run.table("8: 100 -", "8: 1 2").due("add(1, 100, 0)", 2).column(0, "100 -").column(1, "101 102");
    }

    private static void underTheMask() {
        Run.table("8: 5 - -3 100", "8: 1 1 1 1").call("mask(1, 2, 0, 3)").due("add(0, 7, 1)", 2).column(0, "12 - 4 100")
                .due("add(0, -12, 0)", 3).column(0, "0 - -8 88").column(1, "1 1 1 1").due("add(0, 0, 0)", 3)
                .column(0, "0 - -8 88");
    }

    private static void edgesOfEachWidth() {
        for (int width = 2; width <= 63; width++) {
            long least = -(1L << (width - 1));
            long most = (1L << (width - 1)) - 1;
            Run.table(width + ": 0").due("add(0, " + most + ", 0)", 1).doesNotFit("add(0, 1, 0)")
                    .due("add(0, " + (least - most) + ", 0)", 1).column(0, Long.toString(least))
                    .doesNotFit("add(0, -1, 0)").due("add(0, " + (most - least) + ", 0)", 1)
                    .column(0, Long.toString(most));
        }
    }

    private static void howMany() {
        Run.full(1, 8, 1).due("add(0, 126, 0)", 192).due("get(0, 0)", 127).due("get(0, 191)", 127);
        Run.ramp().due("add(0, -256, 0)", 192).due("get(0, 0)", -256).due("get(0, 191)", -65);
    }

    private static void noSuchColumnOrMask() {
        Run.table("8: 1", "8: 1").noColumn("add(%, 1, 0)").noMask("add(0, 1, %)").noColumn("add(%, MAX, 0)")
                .noMask("add(0, MIN, %)");
        new Run().noColumn("add(%, 1, 0)");
    }

    private static void allOrNone() {
        Run.table("8: 127 - 0").doesNotFit("add(0, 1, 0)").column(0, "127 - 0");
        Run.table("8: 0 - -128").doesNotFit("add(0, -1, 0)").column(0, "0 - -128");
        Run.full(1, 8, 0).call("set(0, 191, 127)").doesNotFit("add(0, 1, 0)").due("get(0, 0)", 0)
                .call("mask(1, 2, 0, 191)").due("add(0, 1, 1)", 191);
    }

    private static void edgesOfALong() {
        Run.table("63: MOST").doesNotFit("add(0, 1, 0)").doesNotFit("add(0, MAX, 0)").doesNotFit("add(0, MOST, 0)")
                .doesNotFit("add(0, MIN, 0)").due("add(0, " + -Long.MAX_VALUE + ", 0)", 1)
                .column(0, Long.toString(Run.LEAST));
        Run.table("63: LEAST").doesNotFit("add(0, -1, 0)").doesNotFit("add(0, MIN, 0)").doesNotFit("add(0, LEAST, 0)")
                .due("add(0, MAX, 0)", 1).column(0, Long.toString(Run.MOST));
        // The SUM would be the least long, which stands for no number.
        Run.table("63: LEAST").doesNotFit("add(0, LEAST, 0)").due("has(2)", 1);
        Run.table("63: 0").doesNotFit("add(0, MIN, 0)").doesNotFit("add(0, NOTHING, 0)").due("has(2)", 1);
    }

    private static void nothingToAddTo() {
        Run.table("8: 1 -").due("add(0, MAX, 7)", 0).call("mask(1, 2, 1, 2)").due("add(0, MAX, 1)", 0)
                .due("add(0, MIN, 1)", 0).column(0, "1 -").due("has(6)", 0);
        Run.table("8:").due("add(0, MAX, 0)", 0);
    }
}
