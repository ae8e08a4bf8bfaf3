/** Promise 44: plus. */
public final class Promise44PlusTest {
    public static void main(String[] args) {
        Promise p = Promise.number(44);
        p.says("The number of another COLUMN", Promise44PlusTest::ofAnother);
        p.says("(or the same one)", Promise44PlusTest::ofTheSame);
        p.says("in the same ROW is added", Promise44PlusTest::underTheMask);
        p.says("in the same ROW is added", Promise44PlusTest::otherColumnsStay);
        p.says("(less: taken off),", Promise44PlusTest::takenOff);
        p.says("where both have one:", Promise44PlusTest::whereBothHaveOne);
        p.says("in how many ROWS.", Promise44PlusTest::inHowManyRows);
        p.says("IndexOutOfBoundsException;", Promise44PlusTest::noSuchColumnOrMask);
        p.says("ArithmeticException.", Promise44PlusTest::allOrNone);
        p.says("ArithmeticException.", Promise44PlusTest::edgesOfTheGreatestWidth);
        p.end();
    }

    private static void ofAnother() {
        Run.table("8: 5 -3 100", "20: 10 -20 27").due("plus(0, 1, false, 0)", 3).column(0, "15 -23 127")
                .column(1, "10 -20 27");
        Run.table("8: 5 -3 100", "20: 10 -20 27").due("plus(1, 0, false, 0)", 3).column(1, "15 -23 127");
    }

    private static void ofTheSame() {
        Run.table("8: 63 -64 -").due("plus(0, 0, false, 0)", 2).column(0, "126 -128 -")
                .doesNotFit("plus(0, 0, false, 0)").due("plus(0, 0, true, 0)", 2).column(0, "0 0 -");
        Run.table("8: 64").doesNotFit("plus(0, 0, false, 0)");
        Run.table("8: -65").doesNotFit("plus(0, 0, false, 0)");
        Run.table("63: LEAST MOST").doesNotFit("plus(0, 0, false, 0)").due("plus(0, 0, true, 0)", 2).column(0, "0 0");
    }

    private static void otherColumnsStay() {
        Run.table("8: 9 9 9", "8: 1 2 3", "8: 10 20 -").due("plus(1, 2, false, 0)", 2).column(0, "9 9 9")
                .column(1, "11 22 3").due("plus(2, 1, true, 0)", 2).column(2, "-1 -2 -");
    }

    private static void underTheMask() {
        Run.table("8: 1 2 3 4", "8: 10 20 30 40").call("mask(1, 2, 1, 3)").due("plus(0, 1, false, 1)", 2)
                .column(0, "1 22 33 4").due("plus(0, 1, false, 7)", 0).column(0, "1 22 33 4");
    }

    private static void takenOff() {
        Run.table("8: 15 -23 127", "20: 10 -20 27").due("plus(0, 1, true, 0)", 3).column(0, "5 -3 100")
                .column(1, "10 -20 27");
    }

    private static void whereBothHaveOne() {
        Run.table("2: - 1 - 0", "63: MOST - - 1").due("plus(0, 1, false, 0)", 1).column(0, "- 1 - 1")
                .due("plus(0, 1, true, 0)", 1).column(0, "- 1 - 0");
        Run.table("8: 1 2", "8: - -").due("plus(0, 1, false, 0)", 0).column(0, "1 2")
                .due("plus(1, 0, false, 0)", 0).column(1, "- -");
    }

    private static void inHowManyRows() {
        Run.full(6, 8, 3).due("plus(0, 5, false, 0)", 192).due("get(0, 191)", 6).due("get(5, 191)", 3);
        Run.table("8:", "8:").due("plus(0, 1, false, 0)", 0);
        // Rows where 0 is added count, too.
        Run.table("8: 1 2", "8: 0 0").due("plus(0, 1, false, 0)", 2).column(0, "1 2");
    }

    private static void noSuchColumnOrMask() {
        Run.table("8: 127", "8: 127").noColumn("plus(%, 0, false, 0)").noColumn("plus(0, %, true, 0)")
                .noMask("plus(0, 1, false, %)").noColumn("plus(%, %, false, 0)");
        new Run().noColumn("plus(%, %, false, 0)");
    }

    private static void allOrNone() {
        Run.table("8: 1 100 1", "20: 1 27 1").due("plus(0, 1, false, 0)", 3).doesNotFit("plus(0, 1, false, 0)")
                .column(0, "2 127 2");
        Run.table("8: 1 -100 1", "20: 1 28 1").due("plus(0, 1, true, 0)", 3).doesNotFit("plus(0, 1, true, 0)")
                .column(0, "0 -128 0");
        Run.full(2, 8, 1).call("set(0, 191, 127)").doesNotFit("plus(0, 1, false, 0)").due("get(0, 0)", 1)
                .due("plus(0, 1, true, 0)", 192);
    }

    private static void edgesOfTheGreatestWidth() {
        Run.table("63: MOST", "63: MOST").doesNotFit("plus(0, 1, false, 0)").due("plus(0, 1, true, 0)", 1)
                .column(0, "0").due("plus(0, 1, true, 0)", 1).column(0, Long.toString(-Run.MOST))
                .doesNotFit("plus(0, 1, true, 0)").due("has(2)", 2);
        // LEAST plus LEAST would be the least long; nothing less LEAST is one more than the MOST.
        Run.table("63: LEAST", "63: LEAST").doesNotFit("plus(0, 1, false, 0)").due("plus(0, 1, true, 0)", 1)
                .column(0, "0").doesNotFit("plus(0, 1, true, 0)").call("set(0, 0, -1)").due("plus(0, 1, true, 0)", 1)
                .column(0, Long.toString(Run.MOST)).doesNotFit("plus(0, 1, true, 0)");
        Run.table("63: MOST", "63: LEAST").doesNotFit("plus(0, 1, true, 0)").due("plus(0, 1, false, 0)", 1)
                .column(0, "-1");
        Run.table("63: LEAST", "63: MOST").doesNotFit("plus(0, 1, true, 0)").due("plus(0, 1, false, 0)", 1)
                .column(0, "-1");
    }
}
