/** Promise 12: bits. */
public final class Promise12BitsTest {
    public static void main(String[] args) {
        Promise p = Promise.number(12);
        p.says("ROWS 64 w and on of a MASK become those of the bits of v", Promise12BitsTest::thoseOfTheBits);
        p.says("ROWS 64 w and on of a MASK become those of the bits of v", Promise12BitsTest::otherWordsStay);
        p.says("(bits beyond ROWS are left out):", Promise12BitsTest::bitsBeyondRows);
        p.says("how many the MASK has.", Promise12BitsTest::howManyTheMaskHas);
        p.says("IndexOutOfBoundsException.", Promise12BitsTest::noSuchMaskOrWord);
        p.end();
    }

    private static void thoseOfTheBits() {
        Run.rows(192).due("bits(1, 0, 5)", 2).mask(1, "0 2").due("bits(1, 0, MIN)", 1).mask(1, "63")
                .due("bits(1, 0, -1)", 64).due("word(1, 0)", -1).due("bits(1, 0, MAX)", 63).due("bits(1, 0, 0)", 0)
                .due("bits(1, 2, MIN)", 1).mask(1, "191").due("bits(1, 2, 1)", 1).mask(1, "128");
    }

    private static void otherWordsStay() {
        Run.rows(192).call("mask(1, 0, 0, 0)").due("bits(1, 1, 0)", 128).due("word(1, 0)", -1).due("word(1, 1)", 0)
                .due("word(1, 2)", -1).due("bits(1, 0, 0)", 64).due("bits(1, 2, 0)", 0).due("row(0, NONE)", 192);
    }

    private static void bitsBeyondRows() {
        for (int rows : new int[] {0, 1, 63, 64, 65, 127, 128, 129, 191, 192}) {
            Run run = Run.rows(rows);
            for (int w = 0; w < 3; w++) {
                int inWord = Math.max(0, Math.min(64, rows - 64 * w));
                run.due("bits(1, " + w + ", -1)", Math.min(rows, 64 * w + 64))
                        .due("word(1, " + w + ")", inWord == 64 ? -1L : (1L << inWord) - 1);
            }
            run.growTo(192).due("row(1, NONE)", rows);
        }
        Run.rows(3).due("bits(1, 0, -8)", 0).due("bits(1, 0, MIN)", 0).due("bits(1, 0, -5)", 2).mask(1, "0 1");
    }

    private static void howManyTheMaskHas() {
        Run.rows(192).due("bits(1, 0, 3)", 2).due("bits(1, 1, 7)", 5).due("bits(1, 2, -1)", 69).due("bits(1, 0, 0)", 67)
                .due("row(1, NONE)", 67);
    }

    private static void noSuchMaskOrWord() {
        Run.rows(192).noMask("bits(%, 0, 1)").noWord("bits(0, %, 1)").due("bits(7, 2, 1)", 1);
        new Run().noMask("bits(%, 0, 1)").noWord("bits(0, %, 1)").due("bits(0, 2, 1)", 0);
    }
}
