/** Promise 18: top. */
public final class Promise18TopTest {
    public static void main(String[] args) {
        Promise p = Promise.number(18);
        p.says("A MASK becomes the ROWS of the greatest k numbers", Promise18TopTest::theGreatest);
        p.says("(k 0 and on)", Promise18TopTest::fewestAndMost);
        p.says("of a COLUMN under a MASK", Promise18TopTest::underTheMask);
        p.says("(of like ones the lesser ROWS;", Promise18TopTest::ofLikeOnesTheLesserRows);
        p.says("all that have one, if these are fewer):", Promise18TopTest::allIfFewer);
        p.says("how many.", Promise18TopTest::howMany);
        p.says("IndexOutOfBoundsException;", Promise18TopTest::noSuchColumnOrMask);
        p.says("IllegalArgumentException: k.", Promise18TopTest::belowNone);
        p.end();
    }

    private static void theGreatest() {
        Run.table("63: LEAST MOST - -1 0").due("top(1, 0, 0, 1)", 1).mask(1, "1").due("top(1, 0, 0, 2)", 2)
                .mask(1, "1 4").due("top(1, 0, 0, 3)", 3).mask(1, "1 3 4").due("top(1, 0, 0, 4)", 4).mask(1, "0 1 3 4");
        Run.ramp().due("top(1, 0, 0, 3)", 3).mask(1, "189 190 191").due("top(1, 0, 0, 191)", 191)
                .due("word(1, 0)", -2);
    }

    private static void fewestAndMost() {
        Run.table("8: 1 2 3").due("top(1, 0, 0, 0)", 0).mask(1, "").due("top(1, 0, 0, MAX)", 3).mask(1, "0 1 2");
        Run.full(1, 8, 1).due("top(1, 0, 0, 0)", 0).due("top(1, 0, 0, 192)", 192).due("top(1, 0, 0, 193)", 192);
    }

    private static void underTheMask() {
        Run.table("8: 9 1 2 8", "8: 1 2 3 4").call("mask(1, 2, 1, 3)").due("top(2, 0, 1, 1)", 1).mask(2, "2")
                .due("top(2, 0, 1, 9)", 2).mask(2, "1 2").due("top(2, 0, 7, 2)", 0).mask(2, "")
                .due("top(2, 1, 0, 1)", 1).mask(2, "3");
    }

    private static void ofLikeOnesTheLesserRows() {
        String[] due = {"", "1", "1 3", "1 3 6", "0 1 3 6", "0 1 3 5 6", "0 1 3 4 5 6"};
        Run run = Run.table("8: 3 7 - 7 -1 3 7");
        for (int k = 0; k < due.length; k++) {
            run.due("top(1, 0, 0, " + k + ")", k).mask(1, due[k]);
        }
        Run.full(1, 8, -5).due("top(1, 0, 0, 2)", 2).mask(1, "0 1").due("top(1, 0, 0, 65)", 65).due("word(1, 1)", 1);
    }

    private static void allIfFewer() {
        Run.table("8: - 4 - 3").due("top(1, 0, 0, 2)", 2).due("top(1, 0, 0, 3)", 2).mask(1, "1 3")
                .due("top(1, 0, 0, MAX)", 2);
        Run.table("8: - - -").due("top(1, 0, 0, 1)", 0);
        Run.table("8:").due("top(1, 0, 0, 5)", 0);
    }

    private static void howMany() {
        Run.table("8: 1 2 3").due("top(0, 0, 0, 2)", 2).due("row(0, NONE)", 2);
    }

    private static void noSuchColumnOrMask() {
        Run.table("8: 1 2").noMask("top(%, 0, 0, 1)").noColumn("top(0, %, 0, 1)").noMask("top(0, 0, %, 1)")
                .noMask("top(%, 0, 0, -1)").noColumn("top(0, %, 0, -1)").noMask("top(0, 0, %, -1)")
                .due("top(7, 0, 0, 1)", 1);
        new Run().noColumn("top(0, %, 0, 1)");
    }

    private static void belowNone() {
        Run.table("8: 1 2").noNumber("top(0, 0, 0, %)", "-1", "MIN").mask(0, "0 1");
        Run.table("8:").noNumber("top(0, 0, 0, %)", "-1");
    }
}
