/** Promise 42: box. */
public final class Promise42BoxTest {
    public static void main(String[] args) {
        Promise p = Promise.number(42);
        p.says("How many numbers are low and step times k or more,", Promise42BoxTest::lowerBound);
        p.says("but below low and step times (k and 1)", Promise42BoxTest::upperBound);
        p.says("How many numbers are low and step times k or more,", Promise42BoxTest::underTheMask);
        p.says("How many numbers are low and step times k or more,", Promise42BoxTest::noneAndAll);
        p.says("(step 1 and on, k 0 and on;", Promise42BoxTest::leastAndGreatest);
        p.says("both bounds whole numbers, however great).", Promise42BoxTest::boundsThatAreNoLongs);
        p.says("both bounds whole numbers, however great).", Promise42BoxTest::powersOfTwo);
        p.says("both bounds whole numbers, however great).", Promise42BoxTest::fromTheLeastLong);
        p.says("IndexOutOfBoundsException;", Promise42BoxTest::noSuchColumnOrMask);
        p.says("IllegalArgumentException: step,", Promise42BoxTest::noSuchStep);
        p.says("k.", Promise42BoxTest::noSuchK);
        p.end();
    }

    private static void lowerBound() {
        Run.table("8: 10 - -4 6").due("box(0, 0, -4, 5, 0)", 1).due("box(0, 0, -3, 5, 0)", 0)
                .due("box(0, 0, -4, 5, 2)", 2).due("box(0, 0, -3, 5, 2)", 1).due("box(0, 0, 4, 2, 1)", 1)
                .due("box(0, 0, 5, 2, 1)", 0);
    }

    private static void upperBound() {
        Run.table("8: 10 - -4 6").due("box(0, 0, -5, 11, 0)", 1).due("box(0, 0, -5, 12, 0)", 2)
                .due("box(0, 0, 0, 5, 1)", 1).due("box(0, 0, 0, 5, 2)", 1).due("box(0, 0, 6, 4, 0)", 1)
                .due("box(0, 0, 6, 5, 0)", 2);
    }

    private static void underTheMask() {
        Run.table("8: 1 2 3 4", "8: 9 9 9 9").call("mask(1, 2, 1, 3)").due("box(0, 1, 0, 100, 0)", 2)
                .due("box(0, 1, 0, 1, 2)", 1).due("box(0, 1, 0, 1, 1)", 0).due("box(1, 1, 9, 1, 0)", 2);
    }

    private static void noneAndAll() {
        Run.table("8: 5").due("box(0, 7, 0, 100, 0)", 0);
        Run.table("8: - -").due("box(0, 0, MIN, MAX, 0)", 0).due("box(0, 0, MIN, MAX, 1)", 0);
        Run.table("8:").due("box(0, 0, 0, 100, 0)", 0);
        Run.full(1, 63, Run.LEAST).due("box(0, 0, LEAST, 1, 0)", 192).due("box(0, 0, LEAST, 1, 1)", 0);
        Run.ramp().due("box(0, 0, 0, 10, 19)", 2).due("box(0, 0, 0, 10, 18)", 10).due("box(0, 0, 0, 192, 0)", 192);
    }

    private static void leastAndGreatest() {
        Run.table("63: LEAST -1 0 1 MOST").due("box(0, 0, 0, 1, 0)", 1).due("box(0, 0, 0, 1, 1)", 1)
                .due("box(0, 0, 0, MAX, 0)", 3).due("box(0, 0, -1, MAX, 0)", 4)
                .due("box(0, 0, -2147483647, 1, MAX)", 1).due("box(0, 0, -2147483648, 1, MAX)", 1)
                .due("box(0, 0, -2147483646, 1, MAX)", 1).due("box(0, 0, -2147483645, 1, MAX)", 0);
    }

    private static void boundsThatAreNoLongs() {
        Run.table("63: LEAST -1 0 1 MOST").due("box(0, 0, 1, MAX, 0)", 2).due("box(0, 0, MOST, MAX, 0)", 1)
                .due("box(0, 0, MAX, MAX, 0)", 0).due("box(0, 0, 0, MAX, 1)", 0).due("box(0, 0, 0, MAX, 2)", 0)
                .due("box(0, 0, 0, MAX, MAX)", 0).due("box(0, 0, MAX, MAX, MAX)", 0)
                // Bounds whose lowest 64 bits alone would lie among the numbers.
                .due("box(0, 0, 0, 4611686018427387904, 4)", 0).due("box(0, 0, -1, 4611686018427387904, 4)", 0)
                .due("box(0, 0, 0, 8589934592, MAX)", 0).due("box(0, 0, 0, 4611686018427387904, 1)", 0)
                .due("box(0, 0, -1, 4611686018427387904, 1)", 1)
                .due("box(0, 0, LEAST, 4611686018427387904, 1)", 3);
    }

    private static void powersOfTwo() {
        for (int power = 63; power <= 92; power++) {
            long step = 1L << (power - 30);
            Run.table("63: LEAST -1 0 1 MOST").due("box(0, 0, 0, " + step + ", 1073741824)", 0)
                    .due("box(0, 0, 1, " + step + ", 1073741824)", 0).due("box(0, 0, -1, " + step + ", 1073741824)", 0);
        }
    }

    private static void fromTheLeastLong() {
        Run.table("63: LEAST -1 0 1 MOST").due("box(0, 0, MIN, 4611686018427387904, 0)", 0)
                .due("box(0, 0, MIN, 4611686018427387905, 0)", 1).due("box(0, 0, MIN, 4611686018427387904, 1)", 2)
                .due("box(0, 0, MIN, 4611686018427387904, 2)", 3).due("box(0, 0, MIN, 4611686018427387904, 3)", 0)
                .due("box(0, 0, MIN, MAX, 0)", 1).due("box(0, 0, MIN, MAX, 1)", 4).due("box(0, 0, MIN, MAX, 2)", 0)
                .due("box(0, 0, MIN, MAX, MAX)", 0).due("box(0, 0, MIN, 1, MAX)", 0);
    }

    private static void noSuchColumnOrMask() {
        Run.table("8: 1").noColumn("box(%, 0, 0, 1, 0)").noMask("box(0, %, 0, 1, 0)").noColumn("box(%, 0, 0, 0, 0)")
                .noColumn("box(%, 0, 0, 1, -1)").noMask("box(0, %, 0, 0, 0)").noMask("box(0, %, 0, 1, -1)");
        new Run().noColumn("box(%, 0, 0, 1, 0)");
    }

    private static void noSuchStep() {
        Run.table("8: 1").noNumber("box(0, 0, 0, %, 0)", "0", "-1", "MIN").noNumber("box(0, 7, 0, %, 0)", "0");
    }

    private static void noSuchK() {
        Run.table("8: 1").noNumber("box(0, 0, 0, 1, %)", "-1", "MIN").noNumber("box(0, 7, 0, 1, %)", "-1");
    }
}
