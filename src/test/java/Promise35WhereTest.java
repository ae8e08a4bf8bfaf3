/** Promise 35: where. */
public final class Promise35WhereTest {
    public static void main(String[] args) {
        Promise p = Promise.number(35);
        p.says("The first ROW under a MASK with just the number v;", Promise35WhereTest::theFirst);
        p.says("The first ROW under a MASK with just the number v;", Promise35WhereTest::underTheMask);
        p.says("NONE.", Promise35WhereTest::none);
        p.says("NONE.", Promise35WhereTest::aNumberThatDoesNotFit);
        p.says("IndexOutOfBoundsException.", Promise35WhereTest::noSuchColumnOrMask);
        p.end();
    }

    private static void theFirst() {
        Run.table("63: LEAST - -3 MOST -3 LEAST").due("where(0, 0, LEAST)", 0).due("where(0, 0, -3)", 2)
                .due("where(0, 0, MOST)", 3);
        Run.ramp().due("where(0, 0, 0)", 0).due("where(0, 0, 64)", 64).due("where(0, 0, 191)", 191);
    }

    private static void underTheMask() {
        Run.table("8: 5 - -3 5", "8: 5 5 5 5").call("mask(1, 2, 1, 4)").due("where(0, 1, 5)", 3)
                .due("where(1, 1, 5)", 1).due("where(0, 0, 5)", 0);
    }

    private static void none() {
        Run.table("8: 5 - -3").due("where(0, 0, 4)", -1).due("where(0, 0, 0)", -1).due("where(0, 7, 5)", -1)
                .due("where(0, 0, NOTHING)", -1);
        Run.table("8: - -").due("where(0, 0, 0)", -1).due("where(0, 0, NOTHING)", -1);
        Run.table("8:").due("where(0, 0, 0)", -1);
        Run.ramp().due("where(0, 0, 192)", -1).due("where(0, 0, -1)", -1);
    }

    private static void aNumberThatDoesNotFit() {
        Run.table("2: 0 1 -2 -1").due("where(0, 0, 4)", -1).due("where(0, 0, 2)", -1)
                .due("where(0, 0, 4294967296)", -1).due("where(0, 0, MIN)", -1).due("where(0, 0, MAX)", -1);
    }

    private static void noSuchColumnOrMask() {
        Run.table("8: 1").noColumn("where(%, 0, 1)").noMask("where(0, %, 1)");
        new Run().noColumn("where(%, 0, 1)");
    }
}
