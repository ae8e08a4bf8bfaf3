/** Promise 34: ones. */
public final class Promise34OnesTest {
    public static void main(String[] args) {
        Promise p = Promise.number(34);
        p.says("How many of them have a bit", Promise34OnesTest::underTheMask);
        p.says("How many of them have a bit", Promise34OnesTest::noneAndAll);
        p.says("(as slice()).", Promise34OnesTest::asSlice);
        p.says("IndexOutOfBoundsException.", Promise34OnesTest::noSuchColumnBitOrMask);
        p.end();
    }

    private static void underTheMask() {
        Run.table("4: 5 - -8 -1 3", "4: 1 1 1 1 1").call("mask(1, 2, 0, 3)").due("ones(0, 0, 0)", 3)
                .due("ones(0, 0, 1)", 1).due("ones(0, 3, 1)", 1).due("ones(1, 0, 1)", 3).due("ones(1, 1, 1)", 0);
    }

    private static void noneAndAll() {
        Run run = Run.table("63: - -1 -");
        for (int bit = 0; bit < 63; bit++) {
            run.due("ones(0, " + bit + ", 0)", 1).due("ones(0, " + bit + ", 7)", 0);
        }
        Run.table("8: - -").due("ones(0, 0, 0)", 0).due("ones(0, 7, 0)", 0);
        Run.table("8:").due("ones(0, 0, 0)", 0);
        Run.full(1, 63, -1).due("ones(0, 0, 0)", 192).due("ones(0, 62, 0)", 192);
        Run.ramp().due("ones(0, 0, 0)", 96).due("ones(0, 7, 0)", 64).due("ones(0, 8, 0)", 0);
    }

    private static void asSlice() {
        Run.table("4: 5 - -8 -1 3").due("ones(0, 0, 0)", 3).due("ones(0, 1, 0)", 2).due("ones(0, 2, 0)", 2)
                .due("ones(0, 3, 0)", 2);
        Run.table("2: -2 1 0 -1").due("ones(0, 0, 0)", 2).due("ones(0, 1, 0)", 2);
        Run.table("63: LEAST MOST -1 0").due("ones(0, 62, 0)", 2).due("ones(0, 61, 0)", 2).due("ones(0, 0, 0)", 2);
    }

    private static void noSuchColumnBitOrMask() {
        Run.table("4: 1", "63: 1").noColumn("ones(%, 0, 0)").noMask("ones(0, 0, %)").noBit("ones(0, %, 0)", 4)
                .noBit("ones(1, %, 0)", 63);
        new Run().noColumn("ones(%, 0, 0)");
    }
}
