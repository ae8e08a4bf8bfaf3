/** Promise 19: field. */
public final class Promise19FieldTest {
    public static void main(String[] args) {
        Promise p = Promise.number(19);
        p.says("A MASK becomes those under a MASK", Promise19FieldTest::underTheMask);
        p.says("whose number in a COLUMN", Promise19FieldTest::emptyOnesNever);
        p.says("has in its bits from .. from and many less 1", Promise19FieldTest::bitsFromTo);
        p.says("(as slice();", Promise19FieldTest::asSlice);
        p.says("many 1 .. 16,", Promise19FieldTest::fewestAndMostBits);
        p.says("within the WIDTH)", Promise19FieldTest::withinTheWidth);
        p.says("just v (0 .. 2 to the many less 1):", Promise19FieldTest::leastAndGreatestV);
        p.says("how many.", Promise19FieldTest::howMany);
        p.says("IndexOutOfBoundsException", Promise19FieldTest::noSuchColumnOrMask);
        p.says("(from, too);", Promise19FieldTest::noSuchFrom);
        p.says("IllegalArgumentException: many,", Promise19FieldTest::noSuchMany);
        p.says("v.", Promise19FieldTest::noSuchV);
        p.end();
    }

    private static void underTheMask() {
        Run.table("8: 5 5 5 5").call("bits(1, 0, 6)").due("field(2, 0, 0, 3, 5, 1)", 2).mask(2, "1 2").mask(1, "1 2")
                .due("field(2, 0, 0, 3, 5, 7)", 0).mask(2, "").due("field(7, 0, 0, 3, 5, 0)", 4).mask(7, "0 1 2 3");
    }

    private static void emptyOnesNever() {
        Run.table("63: - 0 -").due("field(1, 0, 0, 1, 0, 0)", 1).mask(1, "1").due("field(1, 0, 62, 1, 0, 0)", 1)
                .due("field(1, 0, 62, 1, 1, 0)", 0).due("field(1, 0, 47, 16, 32768, 0)", 0);
    }

    private static void bitsFromTo() {
        Run.table("8: 5 - 2", "8: 2 5 5").due("field(1, 1, 0, 3, 5, 0)", 2).mask(1, "1 2");
        Run.table("8: 5 -3 - 0 -128 21").due("field(1, 0, 0, 2, 1, 0)", 3).mask(1, "0 1 5")
                .due("field(1, 0, 2, 3, 5, 0)", 1).mask(1, "5").due("field(1, 0, 1, 2, 2, 0)", 3).mask(1, "0 1 5")
                .due("field(1, 0, 0, 7, 0, 0)", 2).mask(1, "3 4").due("field(1, 0, 6, 2, 2, 0)", 1).mask(1, "4");
    }

    private static void asSlice() {
        Run.table("8: 5 -3 - 0 -128").due("field(1, 0, 7, 1, 1, 0)", 2).mask(1, "1 4").due("slice(0, 7, 0)", 0b10010)
                .due("field(1, 0, 0, 8, 253, 0)", 1).mask(1, "1").due("field(1, 0, 0, 8, 128, 0)", 1).mask(1, "4");
        Run.table("63: LEAST MOST -1 -").due("field(1, 0, 62, 1, 1, 0)", 2).mask(1, "0 2")
                .due("field(1, 0, 61, 1, 1, 0)", 2).mask(1, "1 2");
    }

    private static void fewestAndMostBits() {
        Run run = Run.table("63: -1 0 65535 131071 -");
        for (int many = 1; many <= 16; many++) {
            int all = (1 << many) - 1;
            run.due("field(1, 0, 0, " + many + ", " + all + ", 0)", 3).due("field(1, 0, 0, " + many + ", 0, 0)", 1)
                    .due("field(1, 0, 16, " + many + ", " + all + ", 0)", many == 1 ? 2 : 1);
        }
    }

    private static void withinTheWidth() {
        Run.table("2: -2 1").due("field(1, 0, 0, 2, 2, 0)", 1).mask(1, "0").due("field(1, 0, 1, 1, 1, 0)", 1)
                .noNumber("field(1, 0, 0, %, 0, 0)", "3", "16").noNumber("field(1, 0, 1, %, 0, 0)", "2", "3");
        Run.table("16: -1 0").due("field(1, 0, 0, 16, 65535, 0)", 1).mask(1, "0")
                .noNumber("field(1, 0, 1, %, 0, 0)", "16").due("field(1, 0, 1, 15, 32767, 0)", 1);
        Run.table("15: -1 0").noNumber("field(1, 0, 0, %, 0, 0)", "16").due("field(1, 0, 0, 15, 32767, 0)", 1);
        Run.table("63: MOST LEAST").due("field(1, 0, 47, 16, 32767, 0)", 1).mask(1, "0")
                .due("field(1, 0, 47, 16, 32768, 0)", 1).mask(1, "1").noNumber("field(1, 0, 48, %, 0, 0)", "16")
                .due("field(1, 0, 48, 15, 16384, 0)", 1).noNumber("field(1, 0, 62, %, 0, 0)", "2");
        // A bit that the column has had, or has not had yet.
        Run.table("5: -1").call("widen(0, 4)").noNumber("field(1, 0, 0, %, 15, 0)", "5")
                .due("field(1, 0, 0, 4, 15, 0)", 1).call("widen(0, 5)").due("field(1, 0, 0, 5, 31, 0)", 1);
    }

    private static void leastAndGreatestV() {
        for (int many = 1; many <= 16; many++) {
            int most = (1 << many) - 1;
            Run.table("20: 0 -1 5").due("field(1, 0, 0, " + many + ", 0, 0)", 1)
                    .call("field(1, 0, 0, " + many + ", " + most + ", 0)")
                    .noNumber("field(1, 0, 0, " + many + ", %, 0)", Integer.toString(most + 1), "-1");
        }
    }

    private static void howMany() {
        Run.full(1, 2, -1).due("field(1, 0, 1, 1, 1, 0)", 192).due("field(1, 0, 1, 1, 0, 0)", 0);
        Run.ramp().due("field(1, 0, 6, 2, 2, 0)", 64).due("word(1, 2)", -1).due("field(1, 0, 0, 9, 191, 0)", 1)
                .mask(1, "191");
        Run.table("8:").due("field(1, 0, 0, 1, 0, 0)", 0);
    }

    private static void noSuchColumnOrMask() {
        Run.table("8: 1 2").noMask("field(%, 0, 0, 1, 0, 0)").noColumn("field(0, %, 0, 1, 0, 0)")
                .noMask("field(0, 0, 0, 1, 0, %)").noMask("field(%, 0, 0, 0, 0, 0)")
                .noColumn("field(0, %, 0, 17, 0, 0)").noMask("field(0, 0, 0, 1, 2, %)");
        new Run().noColumn("field(0, %, 0, 1, 0, 0)");
    }

    private static void noSuchFrom() {
        Run.table("8: 1 2").noBit("field(0, 0, %, 1, 0, 0)", 8).noBit("field(0, 0, %, 0, 0, 0)", 8)
                .noBit("field(0, 0, %, 17, -1, 0)", 8).noBit("field(0, 0, %, MAX, MAX, 0)", 8);
        Run.table("63: 1").noBit("field(0, 0, %, 1, 0, 0)", 63).due("field(0, 0, 62, 1, 0, 0)", 1);
    }

    private static void noSuchMany() {
        Run.table("63: 1 2").noNumber("field(0, 0, 0, %, 0, 0)", "0", "17", "-1", "32", "33", "MIN", "MAX")
                .noNumber("field(0, 0, 1, %, 0, 0)", "MAX", "MIN").mask(0, "0 1");
    }

    private static void noSuchV() {
        Run.table("63: 1 2").noNumber("field(0, 0, 0, 16, %, 0)", "65536", "-1", "MIN", "MAX")
                .noNumber("field(0, 0, 0, 1, %, 0)", "2", "-1", "MIN", "MAX").mask(0, "0 1");
    }
}
