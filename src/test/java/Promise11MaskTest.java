/** Promise 11: mask. */
public final class Promise11MaskTest {
    public static void main(String[] args) {
        Promise p = Promise.number(11);
        p.says("A MASK becomes all ROWS (how 0),", Promise11MaskTest::allRows);
        p.says("none (1),", Promise11MaskTest::none);
        p.says("ROWS a .. b less 1 (2;", Promise11MaskTest::rowsFromTo);
        p.says("0 to ROWS, a no more than b),", Promise11MaskTest::boundsOfFromTo);
        p.says("each a-th from b on (3;", Promise11MaskTest::eachOf);
        p.says("a 1 on, b 0 .. a less 1):", Promise11MaskTest::boundsOfEach);
        p.says("how many.", Promise11MaskTest::howMany);
        p.says("IndexOutOfBoundsException;", Promise11MaskTest::noSuchMask);
        p.says("IllegalArgumentException: how,", Promise11MaskTest::noSuchHow);
        p.says("a, b (where they are asked).", Promise11MaskTest::notAskedElsewhere);
        p.end();
    }

    private static void allRows() {
        for (int rows : new int[] {0, 1, 63, 64, 65, 127, 128, 129, 191, 192}) {
            Run run = Run.rows(rows).due("mask(7, 0, 0, 0)", rows);
            for (int w = 0; w < 3; w++) {
                int inWord = Math.max(0, Math.min(64, rows - 64 * w));
                run.due("word(7, " + w + ")", inWord == 64 ? -1L : (1L << inWord) - 1);
            }
        }
    }

    private static void none() {
        Run.rows(192).due("mask(0, 1, 0, 0)", 0).mask(0, "");
        new Run().due("mask(0, 1, 0, 0)", 0);
    }

    private static void rowsFromTo() {
        Run.rows(5).due("mask(1, 2, 1, 4)", 3).mask(1, "1 2 3").due("mask(1, 2, 0, 1)", 1).mask(1, "0")
                .due("mask(1, 2, 4, 5)", 1).mask(1, "4");
        Run.rows(192).due("mask(1, 2, 63, 65)", 2).mask(1, "63 64").due("mask(1, 2, 127, 129)", 2)
                .mask(1, "127 128").due("mask(1, 2, 191, 192)", 1).mask(1, "191").due("mask(1, 2, 0, 192)", 192);
    }

    private static void boundsOfFromTo() {
        Run.rows(5).due("mask(1, 2, 0, 5)", 5).mask(1, "0 1 2 3 4").due("mask(1, 2, 0, 0)", 0).mask(1, "")
                .due("mask(1, 2, 3, 3)", 0).due("mask(1, 2, 5, 5)", 0).call("mask(1, 2, 1, 3)")
                .noNumber("mask(1, 2, %, 3)", "-1", "4", "6", "MIN", "MAX")
                .noNumber("mask(1, 2, 2, %)", "6", "1", "-1", "192", "MIN", "MAX")
                .refused("mask(1, 2, 6, 6)", Run.ARGUMENT).refused("mask(1, 2, -1, -1)", Run.ARGUMENT)
                .refused("mask(1, 2, MAX, MIN)", Run.ARGUMENT).mask(1, "1 2");
        new Run().due("mask(1, 2, 0, 0)", 0).refused("mask(1, 2, 0, 1)", Run.ARGUMENT)
                .refused("mask(1, 2, 1, 1)", Run.ARGUMENT);
        Run.rows(192).refused("mask(1, 2, 0, 193)", Run.ARGUMENT).refused("mask(1, 2, 193, 193)", Run.ARGUMENT)
                .due("mask(1, 2, 192, 192)", 0);
    }

    private static void eachOf() {
        Run.rows(8).due("mask(1, 3, 1, 0)", 8).mask(1, "0 1 2 3 4 5 6 7").due("mask(1, 3, 3, 0)", 3).mask(1, "0 3 6")
                .due("mask(1, 3, 3, 1)", 3).mask(1, "1 4 7").due("mask(1, 3, 3, 2)", 2).mask(1, "2 5")
                .due("mask(1, 3, 8, 7)", 1).mask(1, "7").due("mask(1, 3, 9, 8)", 0).mask(1, "");
        Run.rows(192).due("mask(1, 3, 191, 0)", 2).mask(1, "0 191").due("mask(1, 3, 64, 63)", 3).mask(1, "63 127 191")
                .due("mask(1, 3, 192, 191)", 1).mask(1, "191").due("mask(1, 3, 193, 192)", 0)
                .due("mask(1, 3, 2, 1)", 96).due("mask(0, 3, 1, 0)", 192).due("mask(7, 3, 96, 95)", 2)
                .mask(7, "95 191");
    }

    private static void boundsOfEach() {
        Run.rows(8).due("mask(1, 3, 1, 0)", 8).due("mask(1, 3, MAX, 0)", 1).mask(1, "0").due("mask(1, 3, MAX, 7)", 1)
                .mask(1, "7").due("mask(1, 3, MAX, 8)", 0).due("mask(1, 3, MAX, 2147483646)", 0)
                .due("mask(1, 3, 2, 1)", 4).refused("mask(1, 3, MAX, MAX)", Run.ARGUMENT)
                .noNumber("mask(1, 3, %, 0)", "0", "-1", "MIN").noNumber("mask(1, 3, 1, %)", "1", "-1", "MIN", "MAX")
                .noNumber("mask(1, 3, 4, %)", "4", "5", "-1", "MIN", "MAX")
                .refused("mask(1, 3, -4, -5)", Run.ARGUMENT).mask(1, "1 3 5 7");
        new Run().due("mask(1, 3, 1, 0)", 0).refused("mask(1, 3, 0, 0)", Run.ARGUMENT);
    }

    private static void howMany() {
        // What the mask had before does not count, and the other masks stay.
        Run.rows(192).call("mask(2, 0, 0, 0)").due("mask(0, 2, 100, 110)", 10).due("row(0, NONE)", 10)
                .due("row(2, NONE)", 192);
    }

    private static void noSuchMask() {
        Run.rows(3).noMask("mask(%, 0, 0, 0)").noMask("mask(%, 4, 0, 0)").noMask("mask(%, 2, 5, 4)")
                .noMask("mask(%, 3, 0, 0)").due("mask(7, 0, 0, 0)", 3);
    }

    private static void noSuchHow() {
        Run.rows(3).noNumber("mask(0, %, 0, 1)", "-1", "4", "MIN", "MAX").mask(0, "0 1 2");
    }

    private static void notAskedElsewhere() {
        Run run = Run.rows(3);
        for (String ab : new String[] {"-1, -1", "5, 2", "MIN, MAX", "MAX, MIN", "0, 999"}) {
            run.due("mask(1, 0, " + ab + ")", 3).due("mask(1, 1, " + ab + ")", 0);
        }
    }
}
