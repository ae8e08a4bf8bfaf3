/** Promise 50: pick. */
public final class Promise50PickTest {
    public static void main(String[] args) {
        Promise p = Promise.number(50);
        p.says("Numbers become what of theirs and of another COLUMN's in the same ROW,",
                Promise50PickTest::underTheMask);
        p.says("Numbers become what of theirs and of another COLUMN's in the same ROW,",
                Promise50PickTest::otherColumnsStay);
        p.says("Numbers become what of theirs and of another COLUMN's in the same ROW,", Promise50PickTest::ofItself);
        p.says("if that has one,", Promise50PickTest::ifThatHasOne);
        p.says("is less", Promise50PickTest::theLess);
        p.says("(greater: what is greater):", Promise50PickTest::theGreater);
        p.says("how many become others.", Promise50PickTest::howManyBecomeOthers);
        p.says("IndexOutOfBoundsException;", Promise50PickTest::noSuchColumnOrMask);
        p.says("ArithmeticException.", Promise50PickTest::allOrNone);
        p.says("ArithmeticException.", Promise50PickTest::whatIsNotPickedNeedNotFit);
        p.end();
    }

    private static void otherColumnsStay() {
        Run.table("8: 9 -9 7", "8: 1 -1 0", "8: 2 -2 -").due("pick(1, 2, true, 0)", 1).column(1, "2 -1 0")
                .due("pick(1, 2, false, 0)", 1).column(0, "9 -9 7").column(1, "2 -2 0").column(2, "2 -2 -");
    }

    private static void underTheMask() {
        Run.table("8: 5 5 5 5", "8: 1 2 3 4").call("mask(1, 2, 1, 3)").due("pick(0, 1, false, 1)", 2)
                .column(0, "5 2 3 5").column(1, "1 2 3 4").due("pick(0, 1, false, 7)", 0).column(0, "5 2 3 5");
    }

    /** The document names no refusal for it. */
    private static void ofItself() {
        Run.table("8: 5 - -3").due("pick(0, 0, true, 0)", 0).due("pick(0, 0, false, 0)", 0).column(0, "5 - -3");
    }

    private static void ifThatHasOne() {
        Run.table("8: 5 -5 - -", "63: - - LEAST MOST").due("pick(0, 1, false, 0)", 0).column(0, "5 -5 - -")
                .due("pick(0, 1, true, 0)", 0).column(0, "5 -5 - -").due("has(6)", 0);
    }

    private static void theLess() {
        Run.table("63: 5 4 5 LEAST MOST", "63: 4 5 5 MOST LEAST").due("pick(0, 1, false, 0)", 2)
                .column(0, "4 4 5 " + Run.LEAST + " " + Run.LEAST);
    }

    private static void theGreater() {
        Run.table("63: 5 4 5 LEAST MOST", "63: 4 5 5 MOST LEAST").due("pick(0, 1, true, 0)", 2)
                .column(0, "5 5 5 " + Run.MOST + " " + Run.MOST);
    }

    private static void howManyBecomeOthers() {
        Run.table("8: 5 5 5 -", "8: 4 5 6 7").due("pick(0, 1, true, 0)", 1).due("pick(0, 1, true, 0)", 0)
                .due("pick(0, 1, false, 0)", 1).column(0, "4 5 6 -");
        Run.full(6, 8, 3).call("fill(5, -1, 0)").due("pick(0, 5, true, 0)", 0).due("pick(0, 5, false, 0)", 192)
                .due("get(0, 0)", -1).due("get(0, 191)", -1);
        Run.table("8:", "8:").due("pick(0, 1, true, 0)", 0);
    }

    private static void noSuchColumnOrMask() {
        Run.table("8: 1", "20: 1000").noColumn("pick(%, 1, true, 0)").noColumn("pick(0, %, true, 0)")
                .noMask("pick(0, 1, true, %)").noColumn("pick(%, %, false, 0)");
        new Run().noColumn("pick(%, %, true, 0)");
    }

    private static void allOrNone() {
        Run.table("8: 1 2 3", "20: 5 128 6").doesNotFit("pick(0, 1, true, 0)").column(0, "1 2 3")
                .call("set(1, 1, 127)").due("pick(0, 1, true, 0)", 3).column(0, "5 127 6").call("set(1, 2, -129)")
                .doesNotFit("pick(0, 1, false, 0)").call("set(1, 2, -128)").due("pick(0, 1, false, 0)", 1)
                .column(0, "5 127 -128");
        Run.full(2, 8, 1).call("widen(1, 9)").call("fill(1, 5, 0)").call("set(1, 191, 128)")
                .doesNotFit("pick(0, 1, true, 0)").due("get(0, 0)", 1);
    }

    private static void whatIsNotPickedNeedNotFit() {
        Run.table("2: 1 -2", "63: MOST LEAST").call("mask(1, 2, 0, 1)").call("mask(2, 2, 1, 2)")
                .due("pick(0, 1, false, 1)", 0).due("pick(0, 1, true, 2)", 0).column(0, "1 -2").due("has(6)", 0)
                .doesNotFit("pick(0, 1, true, 1)").doesNotFit("pick(0, 1, false, 2)");
    }
}
