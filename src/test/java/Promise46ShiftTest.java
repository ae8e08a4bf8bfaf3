/** Promise 46: shift. */
public final class Promise46ShiftTest {
    public static void main(String[] args) {
        Promise p = Promise.number(46);
        p.says("Each number times 2 to the n", Promise46ShiftTest::times);
        p.says("(n above 0, 62 at most),", Promise46ShiftTest::edgesOfEachN);
        p.says("through 2 to the -n", Promise46ShiftTest::through);
        p.says("(n below 0, -62 at least;", Promise46ShiftTest::farDown);
        p.says("the greatest whole number not above):", Promise46ShiftTest::notAbove);
        p.says("how many numbers.", Promise46ShiftTest::howMany);
        p.says("IndexOutOfBoundsException;", Promise46ShiftTest::noSuchColumnOrMask);
        p.says("IllegalArgumentException;", Promise46ShiftTest::noSuchN);
        p.says("IllegalArgumentException;", Promise46ShiftTest::byNone);
        p.says("ArithmeticException.", Promise46ShiftTest::allOrNone);
        p.says("ArithmeticException.", Promise46ShiftTest::whatWouldWrap);
        p.end();
    }

    private static void times() {
        Run.table("8: 100 -", "8: 1 2").due("shift(1, 3, 0)", 2).column(0, "100 -").column(1, "8 16");
        Run.table("8: 5 - -16 15 0", "8: 1 1 1 1 1").due("shift(0, 3, 0)", 4).column(0, "40 - -128 120 0")
                .column(1, "1 1 1 1 1");
        Run.table("8: 1 2 3 4").call("mask(1, 2, 1, 3)").due("shift(0, 1, 1)", 2).column(0, "1 4 6 4");
    }

    private static void edgesOfEachN() {
        for (int n = 1; n <= 62; n++) {
            String shift = "shift(0, " + n + ", 0)";
            long least = Run.LEAST >> n;
            long most = Run.MOST >> n;
            Run.table("63: " + least).due(shift, 1).column(0, Long.toString(Run.LEAST));
            Run.table("63: " + (least - 1)).doesNotFit(shift);
            Run.table("63: " + most).due(shift, 1).column(0, Long.toString(most << n));
            Run.table("63: " + (most + 1)).doesNotFit(shift);
            // What would come is the least long, which stands for no number.
            Run.table("63: " + Math.max(Long.MIN_VALUE >> n, Run.LEAST)).doesNotFit(shift).due("has(2)", 1);
            Run.table("63: 0 -").due(shift, 1).column(0, "0 -");
        }
    }

    private static void through() {
        Run.table("8: 100 -", "8: 9 2").due("shift(1, -1, 0)", 2).column(0, "100 -").column(1, "4 1");
        Run.table("8: 40 - -128 120 0", "8: 8 8 8 8 8").due("shift(0, -3, 0)", 4).column(0, "5 - -16 15 0")
                .column(1, "8 8 8 8 8");
        Run.table("8: 8 8 8 8").call("mask(1, 2, 1, 3)").due("shift(0, -1, 1)", 2).column(0, "8 4 4 8");
    }

    private static void farDown() {
        for (int n = 1; n <= 62; n++) {
            Run.table("63: LEAST MOST - 1 -1").due("shift(0, " + -n + ", 0)", 4)
                    .column(0, (Run.LEAST >> n) + " " + (Run.MOST >> n) + " - 0 -1");
        }
        Run.table("63: LEAST MOST").due("shift(0, -62, 0)", 2).column(0, "-1 0").due("shift(0, -62, 0)", 2)
                .column(0, "-1 0");
        Run.table("2: -2 1").due("shift(0, -62, 0)", 2).column(0, "-1 0");
    }

    private static void notAbove() {
        Run.table("8: 7 -7 1 -1 0 -8").due("shift(0, -1, 0)", 6).column(0, "3 -4 0 -1 0 -4").due("shift(0, -2, 0)", 6)
                .column(0, "0 -1 0 -1 0 -1");
    }

    private static void howMany() {
        Run.full(1, 8, 1).due("shift(0, 6, 0)", 192).due("get(0, 0)", 64).due("get(0, 191)", 64)
                .due("shift(0, -62, 0)", 192).due("get(0, 191)", 0);
        Run.table("8: - -").due("shift(0, 62, 0)", 0).due("shift(0, -62, 0)", 0).column(0, "- -");
        Run.table("8: 100").due("shift(0, 62, 7)", 0).column(0, "100");
        Run.table("8:").due("shift(0, 62, 0)", 0).due("shift(0, -62, 0)", 0);
    }

    private static void noSuchColumnOrMask() {
        Run.table("8: 127").noColumn("shift(%, -1, 0)").noMask("shift(0, -1, %)").noColumn("shift(%, 63, 0)")
                .noMask("shift(0, -63, %)").noColumn("shift(%, 0, 0)").noMask("shift(0, 0, %)")
                .noColumn("shift(%, 1, 0)").noMask("shift(0, 1, %)");
        new Run().noColumn("shift(%, 1, 0)");
    }

    private static void noSuchN() {
        Run.table("8: 127").noNumber("shift(0, %, 0)", "63", "-63", "64", "-64", "MIN", "MAX")
                .noNumber("shift(0, %, 7)", "63", "-63");
        Run.table("8:").noNumber("shift(0, %, 0)", "63", "-63");
    }

    /** n is above 0 or below 0. */
    private static void byNone() {
        Run.table("8: 5 - -16", "2: - - -").noNumber("shift(0, %, 0)", "0").noNumber("shift(1, %, 0)", "0")
                .noNumber("shift(0, %, 7)", "0");
        Run.table("8:").noNumber("shift(0, %, 0)", "0");
    }

    private static void allOrNone() {
        Run.table("8: 1 64 1").doesNotFit("shift(0, 1, 0)").column(0, "1 64 1");
        Run.table("8: 1 -64 63").due("shift(0, 1, 0)", 3).column(0, "2 -128 126").doesNotFit("shift(0, 1, 0)");
        Run.full(1, 8, 1).call("set(0, 191, 127)").doesNotFit("shift(0, 1, 0)").due("get(0, 0)", 1);
        Run.table("2: 1").doesNotFit("shift(0, 1, 0)");
        Run.table("2: -1").due("shift(0, 1, 0)", 1).column(0, "-2").doesNotFit("shift(0, 1, 0)");
    }

    private static void whatWouldWrap() {
        Run.table("63: 4").doesNotFit("shift(0, 62, 0)").column(0, "4");
        Run.table("63: 2").doesNotFit("shift(0, 62, 0)").column(0, "2");
        Run.table("63: LEAST").doesNotFit("shift(0, 2, 0)").doesNotFit("shift(0, 62, 0)");
        Run.table("8: 2").doesNotFit("shift(0, 62, 0)").doesNotFit("shift(0, 32, 0)");
    }
}
