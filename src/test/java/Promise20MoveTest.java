/** Promise 20: move. */
public final class Promise20MoveTest {
    public static void main(String[] args) {
        Promise p = Promise.number(20);
        p.says("A MASK becomes the ROWS n (-192 .. 192) behind those of MASK a", Promise20MoveTest::behind);
        p.says("A MASK becomes the ROWS n (-192 .. 192) behind those of MASK a", Promise20MoveTest::leastAndGreatest);
        p.says("(n below 0: ahead),", Promise20MoveTest::ahead);
        p.says("as far as they are there:", Promise20MoveTest::asFarAsThere);
        p.says("how many.", Promise20MoveTest::howMany);
        p.says("IndexOutOfBoundsException;", Promise20MoveTest::noSuchMask);
        p.says("IllegalArgumentException: n.", Promise20MoveTest::noSuchN);
        p.end();
    }

    /** Mask 1 has rows 0, 1 and 4. */
    private static Run five() {
        return Run.rows(5).call("bits(1, 0, 19)");
    }

    private static void behind() {
        five().due("move(2, 1, 0)", 3).mask(2, "0 1 4").due("move(2, 1, 1)", 2).mask(2, "1 2").due("move(2, 1, 2)", 2)
                .mask(2, "2 3").due("move(2, 1, 3)", 2).mask(2, "3 4").due("move(2, 1, 4)", 1).mask(2, "4")
                .mask(1, "0 1 4");
    }

    private static void leastAndGreatest() {
        Run.rows(192).due("move(1, 0, 192)", 0).mask(1, "").due("move(1, 0, -192)", 0).mask(1, "")
                .due("move(1, 0, 191)", 1).mask(1, "191").due("move(1, 0, -191)", 1).mask(1, "0");
        five().due("move(2, 1, 192)", 0).due("move(2, 1, -192)", 0);
    }

    private static void ahead() {
        five().due("move(2, 1, -1)", 2).mask(2, "0 3").due("move(2, 1, -3)", 1).mask(2, "1").due("move(2, 1, -4)", 1)
                .mask(2, "0");
    }

    private static void asFarAsThere() {
        five().due("move(2, 1, 5)", 0).mask(2, "").due("move(2, 1, -5)", 0).mask(2, "").due("move(2, 0, 4)", 1)
                .mask(2, "4").due("move(2, 0, -4)", 1).mask(2, "0");
        Run.rows(65).due("move(1, 0, 1)", 64).due("word(1, 0)", -2).due("word(1, 1)", 1).due("move(1, 1, 1)", 63)
                .growTo(192).due("row(1, NONE)", 63);
        new Run().due("move(0, 0, 1)", 0).due("move(0, 0, 0)", 0);
    }

    private static void howMany() {
        Run.rows(192).due("move(1, 0, 64)", 128).due("word(1, 0)", 0).due("word(1, 1)", -1).due("word(1, 2)", -1)
                .due("move(1, 1, -127)", 65).due("word(1, 0)", -1).due("word(1, 1)", 1).due("move(1, 7, 3)", 0)
                .call("mask(2, 2, 189, 190)").due("move(1, 2, -126)", 1).mask(1, "63").due("move(1, 1, 1)", 1)
                .mask(1, "64").due("move(1, 1, 127)", 1).mask(1, "191");
    }

    private static void noSuchMask() {
        five().noMask("move(%, 0, 0)").noMask("move(0, %, 0)").noMask("move(%, 0, 193)").noMask("move(0, %, -193)")
                .due("move(7, 7, 0)", 0);
    }

    private static void noSuchN() {
        five().noNumber("move(1, 1, %)", "193", "-193", "MIN", "MAX").mask(1, "0 1 4");
        new Run().noNumber("move(1, 1, %)", "193", "-193");
    }
}
