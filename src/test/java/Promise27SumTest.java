/** Promise 27: sum. */
public final class Promise27SumTest {
    public static void main(String[] args) {
        Promise p = Promise.number(27);
        p.says("Their SUM", Promise27SumTest::underTheMask);
        p.says("Their SUM", Promise27SumTest::throughWhatIsNoLong);
        p.says("(0 without).", Promise27SumTest::zeroWithout);
        p.says("IndexOutOfBoundsException;", Promise27SumTest::noSuchColumnOrMask);
        p.says("ArithmeticException.", Promise27SumTest::beyondTheGreatestLong);
        p.says("ArithmeticException.", Promise27SumTest::beyondTheLeastLong);
        p.says("ArithmeticException.", Promise27SumTest::whatWouldWrap);
        p.end();
    }

    private static void underTheMask() {
        Run.table("8: 5 - 0 -30", "8: 1 2 3 4").call("mask(1, 2, 0, 3)").due("sum(0, 0)", -25).due("sum(0, 1)", 5)
                .due("sum(1, 1)", 6);
        Run.ramp().due("sum(0, 0)", 191 * 96);
    }

    private static void throughWhatIsNoLong() {
        Run.table("63: MOST MOST MOST LEAST LEAST LEAST").due("sum(0, 0)", -3);
        Run.table("63: LEAST LEAST LEAST MOST MOST MOST").due("sum(0, 0)", -3);
        Run.full(1, 63, Run.MOST).call("mask(1, 3, 2, 0)").call("fill(0, LEAST, 1)").due("sum(0, 0)", -96);
    }

    private static void zeroWithout() {
        Run.table("63: MOST MOST MOST").due("sum(0, 7)", 0);
        Run.table("63: - -").due("sum(0, 0)", 0);
        Run.table("63:").due("sum(0, 0)", 0);
    }

    private static void noSuchColumnOrMask() {
        Run.table("63: MOST MOST MOST").noColumn("sum(%, 0)").noMask("sum(0, %)").noMask("sum(1, %)");
        new Run().noColumn("sum(%, 0)");
    }

    private static void beyondTheGreatestLong() {
        Run.table("63: MOST MOST 1").due("sum(0, 0)", Long.MAX_VALUE).call("set(0, 2, 2)")
                .refused("sum(0, 0)", Run.ARITHMETIC).call("set(0, 2, MOST)").refused("sum(0, 0)", Run.ARITHMETIC);
        Run.full(1, 63, Run.MOST).refused("sum(0, 0)", Run.ARITHMETIC);
    }

    private static void beyondTheLeastLong() {
        Run.table("63: LEAST LEAST 0").due("sum(0, 0)", Long.MIN_VALUE).call("set(0, 2, -1)")
                .refused("sum(0, 0)", Run.ARITHMETIC).call("set(0, 2, LEAST)").refused("sum(0, 0)", Run.ARITHMETIC);
        Run.full(1, 63, Run.LEAST).refused("sum(0, 0)", Run.ARITHMETIC);
    }

    private static void whatWouldWrap() {
        Run.table("63: LEAST LEAST LEAST LEAST").refused("sum(0, 0)", Run.ARITHMETIC);
        Run.table("63: MOST MOST MOST MOST 4").refused("sum(0, 0)", Run.ARITHMETIC);
        Run.table("63: MOST MOST MOST MOST MOST").refused("sum(0, 0)", Run.ARITHMETIC);
    }
}
