/** Promise 10: slice. */
public final class Promise10SliceTest {
    public static void main(String[] args) {
        Promise p = Promise.number(10);
        p.says("The row of bits of a bit", Promise10SliceTest::theBits);
        p.says("(0 .. WIDTH less 1, the last one the sign; as two's complement) of a COLUMN,",
                Promise10SliceTest::firstAndLastBit);
        p.says("word w (0 .. 2: ROWS 64 w and on, the lowest bit the first):", Promise10SliceTest::words);
        p.says("0 of EMPTY ones.", Promise10SliceTest::emptyOnes);
        p.says("IndexOutOfBoundsException.", Promise10SliceTest::noSuchColumnBitOrWord);
        p.end();
    }

    private static void theBits() {
        Run.table("9: 1 1 1 1 1", "4: 5 - -8 -1 3").due("slice(1, 0, 0)", 0b11001).due("slice(1, 1, 0)", 0b11000)
                .due("slice(1, 2, 0)", 0b01001).due("slice(1, 3, 0)", 0b01100);
    }

    private static void firstAndLastBit() {
        Run.table("2: -2 -1 0 1").due("slice(0, 0, 0)", 0b1010).due("slice(0, 1, 0)", 0b0011);
        Run.table("63: LEAST MOST -1 0 1").due("slice(0, 62, 0)", 0b00101).due("slice(0, 61, 0)", 0b00110)
                .due("slice(0, 0, 0)", 0b10110).due("slice(0, 32, 0)", 0b00110).due("slice(0, 31, 0)", 0b00110);
        // A bit more, or fewer, than there was.
        Run.table("4: -8 7").call("widen(0, 5)").due("slice(0, 4, 0)", 0b01).due("slice(0, 3, 0)", 0b01);
        Run.table("5: -8 7").call("widen(0, 4)").refused("slice(0, 4, 0)", Run.INDEX).due("slice(0, 3, 0)", 0b01);
    }

    private static void words() {
        Run.ramp().due("slice(0, 0, 0)", 0xAAAAAAAAAAAAAAAAL).due("slice(0, 0, 2)", 0xAAAAAAAAAAAAAAAAL)
                .due("slice(0, 5, 1)", 0xFFFFFFFF00000000L).due("slice(0, 6, 0)", 0).due("slice(0, 6, 1)", -1)
                .due("slice(0, 6, 2)", 0).due("slice(0, 7, 0)", 0).due("slice(0, 7, 1)", 0).due("slice(0, 7, 2)", -1);
        Run.full(1, 2, -1).call("mask(1, 2, 65, 192)").call("remove(1)").due("slice(0, 0, 0)", -1)
                .due("slice(0, 1, 1)", 1).due("slice(0, 1, 2)", 0);
        Run.full(1, 2, 0).call("set(0, 63, 1)").call("set(0, 64, 1)").due("slice(0, 0, 0)", Long.MIN_VALUE)
                .due("slice(0, 0, 1)", 1).call("set(0, 191, 1)").due("slice(0, 0, 2)", Long.MIN_VALUE);
        Run.table("8:").due("slice(0, 0, 0)", 0).due("slice(0, 7, 2)", 0);
    }

    private static void emptyOnes() {
        Run run = Run.table("63: - -1 -").due("slice(0, 0, 0)", 0b010);
        for (int bit = 0; bit < 63; bit++) {
            run.due("slice(0, " + bit + ", 0)", 0b010);
        }
        run.call("clear(0, 1)");
        for (int bit = 0; bit < 63; bit++) {
            run.due("slice(0, " + bit + ", 0)", 0);
        }
    }

    private static void noSuchColumnBitOrWord() {
        Run.table("4: 1 2", "63: 1 2").noColumn("slice(%, 0, 0)").noBit("slice(0, %, 0)", 4)
                .noBit("slice(1, %, 0)", 63).noWord("slice(0, 0, %)").refused("slice(0, 4, 3)", Run.INDEX)
                .due("slice(0, 3, 2)", 0);
        new Run().noColumn("slice(%, 0, 0)");
    }
}
