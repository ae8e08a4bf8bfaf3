/** Promise 14: turn. */
public final class Promise14TurnTest {
    public static void main(String[] args) {
        Promise p = Promise.number(14);
        p.says("A MASK becomes all ROWS that are not of MASK a:", Promise14TurnTest::thoseThatAreNot);
        p.says("A MASK becomes all ROWS that are not of MASK a:", Promise14TurnTest::noneBeyondRows);
        p.says("how many.", Promise14TurnTest::howMany);
        p.says("IndexOutOfBoundsException.", Promise14TurnTest::noSuchMask);
        p.end();
    }

    private static void thoseThatAreNot() {
        Run.rows(5).call("bits(1, 0, 9)").due("turn(2, 1)", 3).mask(2, "1 2 4").mask(1, "0 3");
        Run.rows(192).call("mask(1, 2, 1, 191)").due("turn(2, 1)", 2).mask(2, "0 191");
    }

    private static void noneBeyondRows() {
        for (int rows : new int[] {0, 1, 63, 64, 65, 127, 128, 129, 191, 192}) {
            Run run = Run.rows(rows).due("turn(1, 7)", rows);
            for (int w = 0; w < 3; w++) {
                int inWord = Math.max(0, Math.min(64, rows - 64 * w));
                run.due("word(1, " + w + ")", inWord == 64 ? -1L : (1L << inWord) - 1);
            }
            run.growTo(192).due("row(1, NONE)", rows);
        }
    }

    private static void howMany() {
        Run.rows(192).due("turn(1, 0)", 0).due("turn(1, 1)", 192).due("turn(2, 1)", 0);
        new Run().due("turn(0, 0)", 0).due("turn(0, 7)", 0);
    }

    private static void noSuchMask() {
        Run.rows(3).noMask("turn(%, 0)").noMask("turn(0, %)").noMask("turn(%, %)").due("turn(7, 7)", 3);
    }
}
