/** Promise 15: compare. */
public final class Promise15CompareTest {
    public static void main(String[] args) {
        Promise p = Promise.number(15);
        p.says("A MASK becomes those under a MASK whose number in a COLUMN", Promise15CompareTest::underTheMask);
        p.says("A MASK becomes those under a MASK whose number in a COLUMN", Promise15CompareTest::emptyOnesNever);
        p.says("is below v (how 0),", () -> beside(0, "0", "", "0 1", ""));
        p.says("no more (1),", () -> beside(1, "0 1", "0", "0 1 2", ""));
        p.says("just that (2),", () -> beside(2, "1", "0", "2", ""));
        p.says("another one (3),", () -> beside(3, "0 2 3", "1 2 3", "0 1 3", "0 1 2 3"));
        p.says("no less (4),", () -> beside(4, "1 2 3", "0 1 2 3", "2 3", "0 1 2 3"));
        p.says("above (5):", () -> beside(5, "2 3", "1 2 3", "3", "0 1 2 3"));
        p.says("how many.", Promise15CompareTest::noneAndAll);
        p.says("v is any long.", Promise15CompareTest::edgesOfALong);
        p.says("v is any long.", Promise15CompareTest::aNumberThatDoesNotFit);
        p.says("IndexOutOfBoundsException;", Promise15CompareTest::noSuchColumnOrMask);
        p.says("IllegalArgumentException: how.", Promise15CompareTest::noSuchHow);
        p.end();
    }

    /** Of -4, -3, 5, 7, which are compared with -3, with the least, with 5 and with -5. */
    private static void beside(int how, String ofSecond, String ofFirst, String ofThird, String ofBelow) {
        Run run = Run.table("8: -4 -3 5 7 -");
        String[] numbers = {"-3", "-4", "5", "-5"};
        String[] due = {ofSecond, ofFirst, ofThird, ofBelow};
        for (int i = 0; i < numbers.length; i++) {
            int many = due[i].isEmpty() ? 0 : due[i].split(" ").length;
            run.due("compare(1, 0, " + how + ", " + numbers[i] + ", 0)", many).mask(1, due[i]);
        }
    }

    private static void underTheMask() {
        Run.table("8: 1 1 1 1", "8: 2 1 1 2").call("bits(1, 0, 6)").due("compare(2, 0, 2, 1, 1)", 2).mask(2, "1 2")
                .due("compare(2, 1, 2, 2, 1)", 0).mask(2, "").mask(1, "1 2").due("compare(2, 1, 2, 2, 0)", 2)
                .mask(2, "0 3").due("compare(2, 0, 2, 1, 7)", 0);
    }

    private static void emptyOnesNever() {
        Run run = Run.table("63: - -", "2: 1 1");
        for (int how = 0; how < 6; how++) {
            for (String v : new String[] {"0", "MIN", "MAX", "NOTHING", "LEAST", "MOST"}) {
                run.due("compare(1, 0, " + how + ", " + v + ", 0)", 0);
            }
        }
    }

    private static void noneAndAll() {
        int[] below = {0, 0, 0, 192, 192, 192};
        int[] just = {0, 192, 192, 0, 192, 0};
        for (int how = 0; how < 6; how++) {
            Run.full(1, 8, 3).due("compare(1, 0, " + how + ", 2, 0)", below[how])
                    .due("compare(1, 0, " + how + ", 3, 0)", just[how]);
            Run.table("8:").due("compare(1, 0, " + how + ", 0, 0)", 0);
        }
        Run.ramp().due("compare(1, 0, 5, 190, 0)", 1).mask(1, "191").due("compare(1, 0, 0, 1, 0)", 1).mask(1, "0")
                .due("compare(1, 0, 2, 64, 0)", 1).mask(1, "64");
    }

    private static void edgesOfALong() {
        Run run = Run.table("63: LEAST MOST - 0");
        int[] most = {3, 3, 0, 3, 0, 0};
        int[] least = {0, 0, 0, 3, 3, 3};
        for (int how = 0; how < 6; how++) {
            run.due("compare(1, 0, " + how + ", MAX, 0)", most[how])
                    .due("compare(1, 0, " + how + ", MIN, 0)", least[how]);
        }
        run.due("compare(1, 0, 2, LEAST, 0)", 1).mask(1, "0").due("compare(1, 0, 2, MOST, 0)", 1).mask(1, "1")
                .due("compare(1, 0, 0, LEAST, 0)", 0).due("compare(1, 0, 5, MOST, 0)", 0);
    }

    private static void aNumberThatDoesNotFit() {
        Run run = Run.table("2: -2 1 0 -");
        int[] above = {3, 3, 0, 3, 0, 0};
        int[] below = {0, 0, 0, 3, 3, 3};
        for (int how = 0; how < 6; how++) {
            run.due("compare(1, 0, " + how + ", 2, 0)", above[how]).due("compare(1, 0, " + how + ", 4, 0)", above[how])
                    .due("compare(1, 0, " + how + ", 4294967296, 0)", above[how])
                    .due("compare(1, 0, " + how + ", -3, 0)", below[how])
                    .due("compare(1, 0, " + how + ", -4294967296, 0)", below[how]);
        }
    }

    private static void noSuchColumnOrMask() {
        Run.table("8: 1 2").noMask("compare(%, 0, 0, 0, 0)").noColumn("compare(0, %, 0, 0, 0)")
                .noMask("compare(0, 0, 0, 0, %)").noMask("compare(%, 0, 6, 0, 0)").noColumn("compare(0, %, -1, 0, 0)")
                .noMask("compare(0, 0, 6, 0, %)").due("compare(7, 0, 4, 0, 0)", 2);
        new Run().noColumn("compare(0, %, 0, 0, 0)");
    }

    private static void noSuchHow() {
        Run.table("8: 1 2").noNumber("compare(0, 0, %, 0, 0)", "-1", "6", "MIN", "MAX").mask(0, "0 1");
    }
}
