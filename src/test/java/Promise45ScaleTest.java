/** Promise 45: scale. */
public final class Promise45ScaleTest {
    public static void main(String[] args) {
        Promise p = Promise.number(45);
        p.says("Each number n times", Promise45ScaleTest::underTheMask);
        p.says("Each number n times", Promise45ScaleTest::otherColumnsStay);
        p.says("(-9 .. 9):", Promise45ScaleTest::eachN);
        p.says("how many numbers.", Promise45ScaleTest::howMany);
        p.says("IndexOutOfBoundsException;", Promise45ScaleTest::noSuchColumnOrMask);
        p.says("IllegalArgumentException;", Promise45ScaleTest::noSuchN);
        p.says("ArithmeticException.", Promise45ScaleTest::allOrNone);
        p.says("ArithmeticException.", Promise45ScaleTest::edgesOfEachN);
        p.says("ArithmeticException.", Promise45ScaleTest::edgesOfTheGreatestWidth);
        p.end();
    }

    private static void otherColumnsStay() {
        Run.table("8: 100 -", "8: 1 2").due("scale(1, 3, 0)", 2).column(0, "100 -").column(1, "3 6");
    }

    private static void underTheMask() {
        Run.table("8: 5 - -14 14", "8: 1 1 1 1").call("mask(1, 2, 0, 3)").due("scale(0, 3, 1)", 2)
                .column(0, "15 - -42 14").column(1, "1 1 1 1").due("scale(0, 2, 7)", 0).column(0, "15 - -42 14");
    }

    private static void eachN() {
        for (int n = -9; n <= 9; n++) {
            Run.table("8: 5 - -14 0").due("scale(0, " + n + ", 0)", 3).column(0, 5 * n + " - " + -14 * n + " 0");
        }
    }

    private static void howMany() {
        Run.full(1, 8, 14).due("scale(0, -9, 0)", 192).due("get(0, 0)", -126).due("get(0, 191)", -126)
                .due("scale(0, 1, 0)", 192).due("scale(0, 0, 0)", 192).due("get(0, 191)", 0);
        Run.table("8: - -").due("scale(0, 9, 0)", 0).column(0, "- -");
        Run.table("8: - -").due("scale(0, 0, 0)", 0).column(0, "- -");
        Run.table("8:").due("scale(0, 9, 0)", 0);
    }

    private static void noSuchColumnOrMask() {
        Run.table("8: 127").noColumn("scale(%, 1, 0)").noMask("scale(0, 1, %)").noColumn("scale(%, 10, 0)")
                .noMask("scale(0, -10, %)").noColumn("scale(%, 9, 0)").noMask("scale(0, 9, %)");
        new Run().noColumn("scale(%, 1, 0)");
    }

    private static void noSuchN() {
        Run.table("8: 127").noNumber("scale(0, %, 0)", "10", "-10", "MIN", "MAX")
                .noNumber("scale(0, %, 7)", "10", "-10");
        Run.table("8:").noNumber("scale(0, %, 0)", "10", "-10");
    }

    private static void allOrNone() {
        Run.table("8: 1 64 1").doesNotFit("scale(0, 2, 0)").column(0, "1 64 1").due("scale(0, -2, 0)", 3)
                .column(0, "-2 -128 -2").doesNotFit("scale(0, -1, 0)").due("scale(0, 1, 0)", 3);
        Run.full(1, 8, 1).call("set(0, 191, -128)").doesNotFit("scale(0, -1, 0)").due("get(0, 0)", 1);
    }

    private static void edgesOfEachN() {
        for (int n = 2; n <= 9; n++) {
            long most = Run.MOST / n;
            long least = Run.LEAST / n;
            Run.table("63: " + most + " " + least).due("scale(0, " + n + ", 0)", 2)
                    .column(0, most * n + " " + least * n);
            Run.table("63: " + (most + 1)).doesNotFit("scale(0, " + n + ", 0)");
            Run.table("63: " + (least - 1)).doesNotFit("scale(0, " + n + ", 0)");
            Run.table("63: " + -most + " " + -least).due("scale(0, " + -n + ", 0)", 2)
                    .column(0, most * n + " " + least * n);
            Run.table("63: " + (-most - 1)).doesNotFit("scale(0, " + -n + ", 0)");
            Run.table("63: " + (-least + 1)).doesNotFit("scale(0, " + -n + ", 0)");
        }
    }

    private static void edgesOfTheGreatestWidth() {
        Run most = Run.table("63: MOST");
        Run least = Run.table("63: LEAST");
        for (int n = 2; n <= 9; n++) {
            most.doesNotFit("scale(0, " + n + ", 0)").doesNotFit("scale(0, " + -n + ", 0)");
            least.doesNotFit("scale(0, " + n + ", 0)").doesNotFit("scale(0, " + -n + ", 0)");
        }
        most.due("scale(0, -1, 0)", 1).column(0, Long.toString(-Run.MOST));
        least.doesNotFit("scale(0, -1, 0)").due("scale(0, 1, 0)", 1).column(0, Long.toString(Run.LEAST))
                .due("scale(0, 0, 0)", 1).column(0, "0");
        Run.table("2: -2").doesNotFit("scale(0, -1, 0)").doesNotFit("scale(0, 2, 0)").due("scale(0, 0, 0)", 1);
        Run.table("2: 1").doesNotFit("scale(0, 2, 0)").due("scale(0, -2, 0)", 1).column(0, "-2");
    }
}
