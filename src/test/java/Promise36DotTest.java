/** Promise 36: dot. */
public final class Promise36DotTest {
    public static void main(String[] args) {
        Promise p = Promise.number(36);
        p.says("The SUM of products of the numbers of two COLUMNS", Promise36DotTest::underTheMask);
        p.says("The SUM of products of the numbers of two COLUMNS", Promise36DotTest::throughWhatIsNoLong);
        p.says("(or one with itself)", Promise36DotTest::withItself);
        p.says("in ROWS where both have one.", Promise36DotTest::bothHaveOne);
        p.says("in ROWS where both have one.", Promise36DotTest::noneAndAll);
        p.says("IndexOutOfBoundsException;", Promise36DotTest::noSuchColumnOrMask);
        p.says("ArithmeticException.", Promise36DotTest::beyondTheGreatestLong);
        p.says("ArithmeticException.", Promise36DotTest::beyondTheLeastLong);
        p.says("ArithmeticException.", Promise36DotTest::greatestProducts);
        p.end();
    }

    private static void underTheMask() {
        Run.table("8: 5 2 -3 5", "20: 100 3 1000 -1").due("dot(0, 1, 0)", 500 + 6 - 3000 - 5)
                .due("dot(1, 0, 0)", 500 + 6 - 3000 - 5).call("mask(1, 2, 1, 3)").due("dot(0, 1, 1)", 6 - 3000);
    }

    private static void throughWhatIsNoLong() {
        Run.table("63: MOST MOST 3", "63: MOST -4611686018427387903 -5").due("dot(0, 1, 0)", -15);
        Run.table("63: LEAST LEAST 1 1", "63: LEAST MOST LEAST 7").due("dot(0, 1, 0)", 7);
        Run.full(2, 63, Run.LEAST).call("mask(1, 2, 0, 96)").call("fill(0, MOST, 0)")
                .call("fill(0, -4611686018427387903, 1)").due("dot(0, 1, 0)", 0);
    }

    private static void withItself() {
        Run.table("8: 5 - -3 7").due("dot(0, 0, 0)", 25 + 9 + 49);
        Run.table("63: 3037000499").due("dot(0, 0, 0)", 9223372030926249001L).call("set(0, 0, -3037000499)")
                .due("dot(0, 0, 0)", 9223372030926249001L);
        Run.ramp().due("dot(0, 0, 0)", 191L * 192 * 383 / 6);
    }

    private static void bothHaveOne() {
        Run.table("63: MOST - 2 -", "63: - MOST 3 -").due("dot(0, 1, 0)", 6).due("dot(1, 0, 0)", 6);
        Run.table("63: MOST MOST", "63: - -").due("dot(0, 1, 0)", 0).due("dot(1, 0, 0)", 0);
    }

    private static void noneAndAll() {
        Run.table("63: MOST", "63: MOST").due("dot(0, 1, 7)", 0);
        Run.table("63:", "63:").due("dot(0, 1, 0)", 0).due("dot(0, 0, 0)", 0);
        Run.full(6, 8, -128).due("dot(0, 5, 0)", 192 * 16384).due("dot(5, 5, 0)", 192 * 16384);
    }

    private static void noSuchColumnOrMask() {
        Run.table("63: MOST", "63: MOST").noColumn("dot(%, 0, 0)").noColumn("dot(0, %, 0)").noMask("dot(0, 1, %)");
        new Run().noColumn("dot(%, %, 0)");
    }

    private static void beyondTheGreatestLong() {
        Run.table("63: MOST 1", "63: 2 1").due("dot(0, 1, 0)", Long.MAX_VALUE).call("set(0, 1, 2)")
                .refused("dot(0, 1, 0)", Run.ARITHMETIC);
        Run.table("63: 3037000500").refused("dot(0, 0, 0)", Run.ARITHMETIC);
        // 7 times 1317624576693539401 is the greatest long.
        Run.table("63: 1317624576693539401 0", "63: 7 1").due("dot(0, 1, 0)", Long.MAX_VALUE).call("set(0, 1, 1)")
                .refused("dot(0, 1, 0)", Run.ARITHMETIC);
    }

    private static void beyondTheLeastLong() {
        Run.table("63: LEAST 0", "63: 2 1").due("dot(0, 1, 0)", Long.MIN_VALUE).call("set(0, 1, -1)")
                .refused("dot(0, 1, 0)", Run.ARITHMETIC);
        Run.table("63: LEAST", "63: -2").refused("dot(0, 1, 0)", Run.ARITHMETIC).call("set(1, 0, 3)")
                .refused("dot(0, 1, 0)", Run.ARITHMETIC);
        Run.table("63: 3037000500", "63: -3037000500").refused("dot(0, 1, 0)", Run.ARITHMETIC);
    }

    /** Products far beyond a long, some of which would wrap to 0. */
    private static void greatestProducts() {
        Run.table("63: MOST", "63: MOST").refused("dot(0, 1, 0)", Run.ARITHMETIC);
        Run.table("63: LEAST", "63: LEAST").refused("dot(0, 1, 0)", Run.ARITHMETIC);
        Run.table("63: LEAST", "63: MOST").refused("dot(0, 1, 0)", Run.ARITHMETIC);
        Run.table("63: 4294967296").refused("dot(0, 0, 0)", Run.ARITHMETIC);
        // All powers of two that are no longs, and what is below 0 and no long.
        for (int power = 63; power <= 122; power++) {
            long x = 1L << (power / 2);
            long y = 1L << (power - power / 2);
            Run.table("63: " + x + " 0", "63: " + y + " 1").refused("dot(0, 1, 0)", Run.ARITHMETIC)
                    .call("set(0, 1, 1)").refused("dot(0, 1, 0)", Run.ARITHMETIC);
            Run.table("63: " + -x + " -1", "63: " + y + " 1").refused("dot(0, 1, 0)", Run.ARITHMETIC);
        }
        Run.full(1, 63, Run.LEAST).refused("dot(0, 0, 0)", Run.ARITHMETIC);
        Run.full(2, 63, Run.LEAST).call("fill(1, MOST, 0)").refused("dot(0, 1, 0)", Run.ARITHMETIC);
    }
}
