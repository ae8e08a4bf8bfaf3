/** Promise 13: join. */
public final class Promise13JoinTest {
    public static void main(String[] args) {
        Promise p = Promise.number(13);
        p.says("A MASK becomes those of both a and b (how 0),", Promise13JoinTest::ofBoth);
        p.says("of a or b (1),", Promise13JoinTest::ofEither);
        p.says("of just one of both (2),", Promise13JoinTest::ofJustOne);
        p.says("of a that are not of b (3):", Promise13JoinTest::notOfTheOther);
        p.says("how many.", Promise13JoinTest::noneAndAll);
        p.says("how many.", Promise13JoinTest::inAllWords);
        p.says("IndexOutOfBoundsException;", Promise13JoinTest::noSuchMask);
        p.says("IllegalArgumentException: how.", Promise13JoinTest::noSuchHow);
        p.end();
    }

    /** Mask 1 has rows 0, 2 and 3, mask 2 has rows 1, 2 and 4. */
    private static Run two() {
        return Run.rows(6).call("bits(1, 0, 13)").call("bits(2, 0, 22)");
    }

    private static void ofBoth() {
        two().due("join(3, 1, 2, 0)", 1).mask(3, "2").mask(1, "0 2 3").mask(2, "1 2 4");
    }

    private static void ofEither() {
        two().due("join(3, 1, 2, 1)", 5).mask(3, "0 1 2 3 4");
    }

    private static void ofJustOne() {
        two().due("join(3, 1, 2, 2)", 4).mask(3, "0 1 3 4");
    }

    private static void notOfTheOther() {
        two().due("join(3, 1, 2, 3)", 2).mask(3, "0 3").due("join(3, 2, 1, 3)", 2).mask(3, "1 4");
    }

    /** Mask 0 has all rows, mask 7 none. */
    private static void noneAndAll() {
        int[][] due = {{6, 0, 0, 0}, {6, 6, 6, 0}, {0, 6, 6, 0}, {0, 6, 0, 0}};
        for (int how = 0; how < 4; how++) {
            two().due("join(3, 0, 0, " + how + ")", due[how][0]).due("join(3, 0, 7, " + how + ")", due[how][1])
                    .due("join(3, 7, 0, " + how + ")", due[how][2]).due("join(3, 7, 7, " + how + ")", due[how][3]);
            new Run().due("join(0, 0, 1, " + how + ")", 0);
        }
    }

    private static void inAllWords() {
        Run.rows(192).call("mask(1, 2, 0, 130)").call("mask(2, 2, 60, 192)").due("join(3, 1, 2, 0)", 70)
                .due("join(3, 1, 2, 1)", 192).due("join(3, 1, 2, 2)", 122).due("join(3, 1, 2, 3)", 60)
                .due("join(3, 2, 1, 3)", 62);
    }

    private static void noSuchMask() {
        two().noMask("join(%, 1, 2, 0)").noMask("join(1, %, 2, 0)").noMask("join(1, 2, %, 0)")
                .noMask("join(%, 1, 2, 4)").noMask("join(1, %, 2, 4)").noMask("join(1, 2, %, -1)")
                .due("join(7, 7, 7, 0)", 0).due("join(0, 0, 0, 0)", 6);
    }

    private static void noSuchHow() {
        two().noNumber("join(3, 1, 2, %)", "-1", "4", "MIN", "MAX");
    }
}
