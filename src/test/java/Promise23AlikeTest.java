/** Promise 23: alike. */
public final class Promise23AlikeTest {
    public static void main(String[] args) {
        Promise p = Promise.number(23);
        p.says("Whether two ROWS are ALIKE:", Promise23AlikeTest::withoutColumns);
        p.says("Whether two ROWS are ALIKE:", Promise23AlikeTest::firstAndLast);
        p.says("1,", Promise23AlikeTest::alikeOnes);
        p.says("0.", Promise23AlikeTest::otherOnes);
        p.says("IndexOutOfBoundsException.", Promise23AlikeTest::noSuchRow);
        p.end();
    }

    private static void withoutColumns() {
        Run.rows(3).due("alike(0, 2)", 1).due("alike(1, 1)", 1);
        Run.table("8: 1 2", "8: 3 3").due("alike(0, 1)", 0).call("drop(0)").due("alike(0, 1)", 1).call("drop(0)")
                .due("alike(0, 1)", 1);
    }

    private static void firstAndLast() {
        Run.full(6, 63, Run.LEAST).due("alike(0, 191)", 1).call("set(5, 191, MOST)").due("alike(0, 191)", 0)
                .due("alike(191, 0)", 0).due("alike(191, 191)", 1).due("alike(0, 190)", 1);
    }

    private static void alikeOnes() {
        Run.table("8: 1 1 - -", "63: LEAST LEAST - -").due("alike(0, 1)", 1).due("alike(1, 0)", 1)
                .due("alike(0, 0)", 1).due("alike(2, 3)", 1);
    }

    private static void otherOnes() {
        Run.table("8: 1 1 - - 0", "63: MOST LEAST - 0 0").due("alike(0, 1)", 0).due("alike(2, 3)", 0)
                .due("alike(3, 4)", 0).due("alike(1, 2)", 0);
        Run run = Run.table("2: 1 1", "3: 1 1", "4: 1 1", "5: 1 1", "6: 1 1", "7: 1 1");
        for (int c = 0; c < 6; c++) {
            run.call("clear(" + c + ", 1)").due("alike(0, 1)", 0).call("set(" + c + ", 1, 1)").due("alike(0, 1)", 1);
        }
    }

    private static void noSuchRow() {
        Run.table("8: 1 1").noRow("alike(%, 0)").noRow("alike(0, %)").noRow("alike(%, %)");
        new Run().noRow("alike(%, %)");
        Run.rows(192).noRow("alike(%, 191)").noRow("alike(191, %)");
    }
}
