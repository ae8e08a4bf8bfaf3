/** Promise 25: word. */
public final class Promise25WordTest {
    public static void main(String[] args) {
        Promise p = Promise.number(25);
        p.says("ROWS 64 w and on of a MASK as bits.", Promise25WordTest::asBits);
        p.says("ROWS 64 w and on of a MASK as bits.", Promise25WordTest::noneAndAll);
        p.says("IndexOutOfBoundsException.", Promise25WordTest::noSuchMaskOrWord);
        p.end();
    }

    private static void asBits() {
        Run.rows(192).call("mask(1, 3, 64, 0)").due("word(1, 0)", 1).due("word(1, 1)", 1).due("word(1, 2)", 1)
                .call("mask(1, 3, 64, 63)").due("word(1, 0)", Long.MIN_VALUE).due("word(1, 1)", Long.MIN_VALUE)
                .due("word(1, 2)", Long.MIN_VALUE).call("mask(1, 2, 64, 66)").due("word(1, 0)", 0)
                .due("word(1, 1)", 3).due("word(1, 2)", 0);
    }

    private static void noneAndAll() {
        Run.rows(192).due("word(0, 0)", -1).due("word(0, 1)", -1).due("word(0, 2)", -1).due("word(7, 0)", 0)
                .due("word(7, 2)", 0);
        Run.rows(65).due("word(0, 0)", -1).due("word(0, 1)", 1).due("word(0, 2)", 0);
        new Run().due("word(0, 0)", 0).due("word(7, 2)", 0);
    }

    private static void noSuchMaskOrWord() {
        Run.rows(3).noMask("word(%, 0)").noWord("word(0, %)").noWord("word(8, %)");
    }
}
