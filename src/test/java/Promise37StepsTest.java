/** Promise 37: steps. */
public final class Promise37StepsTest {
    public static void main(String[] args) {
        Promise p = Promise.number(37);
        p.says("The SUM of how far neighbouring numbers are apart (in amounts),", Promise37StepsTest::amounts);
        p.says("ROW by ROW under a MASK,", Promise37StepsTest::underTheMask);
        p.says("EMPTY ones left out.", Promise37StepsTest::emptyOnesLeftOut);
        p.says("ROW by ROW under a MASK,", Promise37StepsTest::noneAndAll);
        p.says("IndexOutOfBoundsException;", Promise37StepsTest::noSuchColumnOrMask);
        p.says("ArithmeticException.", Promise37StepsTest::beyondTheGreatestLong);
        p.end();
    }

    private static void amounts() {
        Run.table("8: 5 -3 -3 7").due("steps(0, 0)", 18);
        Run.table("8: 1 2 1").due("steps(0, 0)", 2);
        Run.table("63: LEAST MOST").due("steps(0, 0)", Long.MAX_VALUE).call("reverse()")
                .due("steps(0, 0)", Long.MAX_VALUE);
    }

    private static void underTheMask() {
        Run.table("8: 5 9 -3 7 100", "8: 1 2 3 4 5").call("bits(1, 0, 13)").due("steps(0, 1)", 18)
                .due("steps(1, 1)", 3);
    }

    private static void emptyOnesLeftOut() {
        Run.table("8: - 5 - - 8 - 1 -").due("steps(0, 0)", 10);
    }

    private static void noneAndAll() {
        Run.table("8: 5 9").due("steps(0, 7)", 0).call("mask(1, 2, 1, 2)").due("steps(0, 1)", 0);
        Run.table("8: - 5 -").due("steps(0, 0)", 0);
        Run.table("8: - -").due("steps(0, 0)", 0);
        Run.table("8:").due("steps(0, 0)", 0);
        Run.ramp().due("steps(0, 0)", 191).call("reverse()").due("steps(0, 0)", 191);
        Run.full(1, 63, Run.LEAST).due("steps(0, 0)", 0);
    }

    private static void noSuchColumnOrMask() {
        Run.table("63: LEAST MOST LEAST").noColumn("steps(%, 0)").noMask("steps(0, %)");
        new Run().noColumn("steps(%, 0)");
    }

    private static void beyondTheGreatestLong() {
        Run.table("63: LEAST MOST MOST").due("steps(0, 0)", Long.MAX_VALUE).call("set(0, 2, " + (Run.MOST - 1) + ")")
                .refused("steps(0, 0)", Run.ARITHMETIC).call("set(0, 2, LEAST)")
                .refused("steps(0, 0)", Run.ARITHMETIC);
        // What would wrap to 0.
        Run.table("63: LEAST MOST LEAST " + (Run.LEAST + 2)).refused("steps(0, 0)", Run.ARITHMETIC);
        Run.full(1, 63, Run.LEAST).call("mask(1, 3, 2, 0)").call("fill(0, MOST, 1)")
                .refused("steps(0, 0)", Run.ARITHMETIC);
    }
}
