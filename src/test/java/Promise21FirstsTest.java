/** Promise 21: firsts. */
public final class Promise21FirstsTest {
    public static void main(String[] args) {
        Promise p = Promise.number(21);
        p.says("A MASK becomes those under a MASK that are the first of all under it that are ALIKE",
                Promise21FirstsTest::firstOfLikeOnes);
        p.says("A MASK becomes those under a MASK that are the first of all under it that are ALIKE",
                Promise21FirstsTest::underTheMask);
        p.says("(ROWS are, if each COLUMN has the same number in both,", Promise21FirstsTest::eachColumn);
        p.says("(ROWS are, if each COLUMN has the same number in both,", Promise21FirstsTest::withoutColumns);
        p.says("or is EMPTY in both):", Promise21FirstsTest::emptyInBoth);
        p.says("how many.", Promise21FirstsTest::noneAndAll);
        p.says("IndexOutOfBoundsException.", Promise21FirstsTest::noSuchMask);
        p.end();
    }

    private static void firstOfLikeOnes() {
        Run.table("8: 1 2 1 3 2 1").due("firsts(1, 0)", 3).mask(1, "0 1 3");
        Run.table("8: 1 2 1 - 2 - 1 1", "8: 5 6 5 - 6 0 6 5").due("firsts(1, 0)", 5).mask(1, "0 1 3 5 6");
    }

    private static void underTheMask() {
        Run.table("8: 1 2 1 3 2 1").call("bits(1, 0, 60)").due("firsts(2, 1)", 3).mask(2, "2 3 4").mask(1, "2 3 4 5")
                .due("firsts(2, 7)", 0).mask(2, "");
    }

    private static void eachColumn() {
        Run run = Run.table("2: 1 1 1", "3: 1 1 1", "4: 1 1 1", "5: 1 1 1", "6: 1 1 1", "63: MOST MOST MOST");
        run.due("firsts(1, 0)", 1).mask(1, "0");
        for (int c = 0; c < 6; c++) {
            run.call("set(" + c + ", 1, 0)").due("firsts(1, 0)", 2).mask(1, "0 1")
                    .call("fill(" + c + ", 1, 0)").due("firsts(1, 0)", 1);
        }
    }

    private static void withoutColumns() {
        Run.rows(192).due("firsts(1, 0)", 1).mask(1, "0").call("mask(2, 2, 5, 9)").due("firsts(1, 2)", 1).mask(1, "5");
        new Run().due("firsts(1, 0)", 0);
    }

    private static void emptyInBoth() {
        Run.table("63: - - 0 0", "63: 1 1 1 1").due("firsts(1, 0)", 2).mask(1, "0 2");
        Run.table("63: - LEAST -", "63: LEAST - LEAST").due("firsts(1, 0)", 2).mask(1, "0 1");
        Run.table("8: - - -").due("firsts(1, 0)", 1).mask(1, "0");
    }

    private static void noneAndAll() {
        Run.ramp().due("firsts(1, 0)", 192).call("set(0, 191, 0)").due("firsts(1, 0)", 191);
        Run.full(6, 8, 1).due("firsts(1, 0)", 1).mask(1, "0").call("set(5, 191, 0)").due("firsts(1, 0)", 2)
                .mask(1, "0 191");
        Run.table("8:").due("firsts(1, 0)", 0);
    }

    private static void noSuchMask() {
        Run.table("8: 1 1").noMask("firsts(%, 0)").noMask("firsts(0, %)").due("firsts(7, 0)", 1);
    }
}
