/** Promise 16: against. */
public final class Promise16AgainstTest {
    public static void main(String[] args) {
        Promise p = Promise.number(16);
        p.says("Likewise,", Promise16AgainstTest::eachHow);
        p.says("Likewise,", Promise16AgainstTest::underTheMask);
        p.says("v being the number of another COLUMN in the same ROW", Promise16AgainstTest::edgesOfWidths);
        p.says("v being the number of another COLUMN in the same ROW", Promise16AgainstTest::itself);
        p.says("(both must have one).", Promise16AgainstTest::bothMustHaveOne);
        p.says("IndexOutOfBoundsException;", Promise16AgainstTest::noSuchColumnOrMask);
        p.says("IllegalArgumentException: how.", Promise16AgainstTest::noSuchHow);
        p.end();
    }

    private static void eachHow() {
        Run run = Run.table("8: 5 -3 -4 -", "20: 4 -3 500 1");
        String[] due = {"2", "1 2", "1", "0 2", "0 1", "0"};
        String[] turned = {"0", "0 1", "1", "0 2", "1 2", "2"};
        for (int how = 0; how < 6; how++) {
            run.due("against(1, 0, 1, " + how + ", 0)", due[how].split(" ").length).mask(1, due[how])
                    .due("against(1, 1, 0, " + how + ", 0)", turned[how].split(" ").length).mask(1, turned[how]);
        }
    }

    private static void underTheMask() {
        Run.table("8: 1 1 1 1", "8: 1 1 1 1").call("bits(1, 0, 6)").due("against(2, 0, 1, 2, 1)", 2).mask(2, "1 2")
                .due("against(2, 0, 1, 2, 7)", 0).mask(2, "").due("against(7, 0, 1, 2, 0)", 4).mask(7, "0 1 2 3");
        Run.full(2, 63, Run.MOST).due("against(1, 0, 1, 2, 0)", 192).due("against(1, 0, 1, 3, 0)", 0);
        Run.table("8:", "9:").due("against(1, 0, 1, 1, 0)", 0);
    }

    private static void edgesOfWidths() {
        Run.table("63: LEAST MOST LEAST MOST", "63: MOST LEAST LEAST MOST").due("against(1, 0, 1, 0, 0)", 1)
                .mask(1, "0")
                .due("against(1, 0, 1, 5, 0)", 1).mask(1, "1").due("against(1, 0, 1, 2, 0)", 2).mask(1, "2 3");
        Run.table("2: -2 1", "63: LEAST MOST").due("against(1, 0, 1, 5, 0)", 1).mask(1, "0")
                .due("against(1, 0, 1, 0, 0)", 1).mask(1, "1");
    }

    /** The document names no refusal for it. */
    private static void itself() {
        int[] due = {0, 2, 2, 0, 2, 0};
        Run run = Run.table("8: 5 - -3");
        for (int how = 0; how < 6; how++) {
            run.due("against(1, 0, 0, " + how + ", 0)", due[how]);
        }
    }

    private static void bothMustHaveOne() {
        Run run = Run.table("63: - 0 - LEAST", "63: 0 - - -");
        for (int how = 0; how < 6; how++) {
            run.due("against(1, 0, 1, " + how + ", 0)", 0).due("against(1, 1, 0, " + how + ", 0)", 0);
        }
    }

    private static void noSuchColumnOrMask() {
        Run.table("8: 1 2", "8: 1 2").noMask("against(%, 0, 1, 0, 0)").noColumn("against(0, %, 1, 0, 0)")
                .noColumn("against(0, 0, %, 0, 0)").noMask("against(0, 0, 1, 0, %)").noMask("against(%, 0, 1, 6, 0)")
                .noColumn("against(0, %, 1, 6, 0)").noColumn("against(0, 0, %, -1, 0)")
                .noMask("against(0, 0, 1, 6, %)");
        new Run().noColumn("against(0, %, %, 0, 0)");
    }

    private static void noSuchHow() {
        Run.table("8: 1 2", "8: 1 2").noNumber("against(0, 0, 1, %, 0)", "-1", "6", "MIN", "MAX").mask(0, "0 1");
    }
}
