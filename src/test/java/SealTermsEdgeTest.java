import java.math.BigInteger;

/** The boundary cases of "Terms" from COVERS to FLAWS: which BYTES a SEAL COVERS, and whether its NUMBER comes out. */
public final class SealTermsEdgeTest extends EdgeCase {
    public static void main(String[] args) throws IllegalAccessException {
        runAll(SealTermsEdgeTest.class);
    }

    // ---- COVERS

    /** FLAWS by THE NUMBER alone, when the last BYTE of WRITE 0, BYTE 4, is altered under a cover so told. */
    private static int flawByByte4(int a, int b, int c, int d) {
        SealedFile x = fileOf(row(0, PAGE, 1, 1, SEAL, 0));
        due("cover", x.cover(1, a, b, c, d), 1);
        due("close", x.close(), 1);
        due("alter", x.alter(0, 2), 1);
        return x.flaws(1) & 8;
    }

    static void aSealCoversFromAToAheadOfB() {
        says("COVERS BYTES from A to ahead of B");
        due("A is BYTE 4", flawByByte4(4, 5, 5, 5), 8);
        due("A is behind BYTE 4", flawByByte4(5, 6, 6, 6), 0);
        due("B is BYTE 4", flawByByte4(0, 4, 6, 6), 0);
        due("B is behind BYTE 4", flawByByte4(0, 5, 6, 6), 8);
        due("A and B are BYTE 4", flawByByte4(4, 4, 6, 6), 0);
    }

    static void aSealCoversFromCToAheadOfD() {
        says("and from C to ahead of D");
        due("C is BYTE 4", flawByByte4(0, 0, 4, 5), 8);
        due("C is behind BYTE 4", flawByByte4(0, 0, 5, 9), 0);
        due("D is BYTE 4", flawByByte4(0, 0, 0, 4), 0);
        due("D is behind BYTE 4", flawByByte4(0, 0, 0, 5), 8);
        due("C and D are BYTE 4", flawByByte4(0, 0, 4, 4), 0);
        due("between B and C", flawByByte4(0, 4, 5, 12), 0);
        due("B and C are BYTE 4", flawByByte4(0, 4, 4, 12), 8);
    }

    static void allWithinIsCovered() {
        says("COVERS BYTES from A to ahead of B, and from C to ahead of D.");
        SealedFile x = fileOf(row(2, PAGE, 258, 1, SEAL, 0, 3, NOTE, 772));
        due("cover", x.cover(1, 1, 4, 9, 13), 1);
        due("how many", x.covered(1), 7);
        x.close();
        due("which", x.number(1, 0), numberOf(2, 0, 1, 0, 79, 3, 2));
        SealedFile one = fileOf(row(2, PAGE, 258, 1, SEAL, 0));
        due("cover", one.cover(1, 3, 4, 4, 5), 1);
        due("one and one", one.covered(1), 2);
        one.close();
        due("B and C are one: none is left out, none is twice", one.number(1, 0), numberOf(1, 2));
    }

    static void onlyAWriteOfThatKindIsASeal() {
        says("A SEAL, that is, a WRITE of that KIND");
        SealedFile x = new SealedFile();
        for (int kind = 0; kind <= 5; kind++) {
            x.put(kind, kind, 1);
            due("covers of KIND " + kind, x.covers(kind, 0), kind == SEAL ? 0 : NOT);
            due("covered of KIND " + kind, x.covered(kind), kind == SEAL ? 20 : NOT);
            due("cover of KIND " + kind, x.cover(kind, 0, 5 * kind, 5 * kind + 5, 32), kind == SEAL ? 1 : NOT);
        }
        x.put(4, GONE, 0);
        due("its THING is GONE, the WRITE is a SEAL", x.covers(4, 1), 20);
        x.close();
        for (int kind = 0; kind <= 5; kind++) {
            due("flaws of KIND " + kind, x.flaws(kind), kind == SEAL ? 4 : NOT);
            due("judge of KIND " + kind, x.judge(kind, 0), kind == SEAL ? 0 : NOT);
            due("change of KIND " + kind, x.change(kind, 0, 0), kind == SEAL ? NONE : NOT);
            due("number of KIND " + kind, x.number(kind, 0) == LEAST ? 0 : 1, kind == SEAL ? 1 : 0);
        }
    }

    private static void edgesAre(String when, SealedFile x, int seal, int... want) {
        for (int what = 0; what < 4; what++) {
            due(when + ", covers(" + seal + ", " + what + ")", x.covers(seal, what), want[what]);
        }
    }

    static void ifNothingIsToldAllIsCoveredButItself() {
        says("If nothing is told, A is 0, B where its own BYTES begin, C behind these, D behind all BYTES of its REVISION.");
        SealedFile x = fileOf(row(0, SEAL, 0));
        edgesAre("WRITE 0, alone, open", x, 0, 0, 0, 5, 5);
        due("nothing", x.covered(0), 0);
        x.close();
        edgesAre("WRITE 0, alone, CLOSED", x, 0, 0, 0, 5, 7);
        due("the closing alone", x.covered(0), 2);
        due("the closing alone", x.number(0, 0), numberOf(0, 0));
        x.put(1, SEAL, 0);
        edgesAre("the first of the next", x, 1, 0, 7, 12, 12);
        x.put(2, PAGE, 1);
        edgesAre("one behind it", x, 1, 0, 7, 12, 17);
        edgesAre("no further than its REVISION", x, 0, 0, 0, 5, 7);
        x.close();
        edgesAre("CLOSED", x, 1, 0, 7, 12, 19);
        x.put(2, PAGE, 2);
        x.close();
        edgesAre("later REVISIONS", x, 1, 0, 7, 12, 19);
        due("how many", x.covered(1), 14);
    }

    static void theLastWriteOf40CoversAllAheadOfIt() {
        says("B where its own BYTES begin, C behind these, D behind all BYTES of its REVISION.");
        SealedFile x = new SealedFile();
        closeUpTo(x, 6);
        fillUpTo(x, 39);
        x.put(9, SEAL, 2);
        edgesAre("open", x, 39, 0, 207, 212, 212);
        due("how many, open", x.covered(39), 207);
        x.close();
        edgesAre("CLOSED", x, 39, 0, 207, 212, 214);
        due("how many", x.covered(39), 209);
        due("FLAWS", x.flaws(39), 0);
    }

    // ---- THE NUMBER

    static void theNumberBeginsWith7() {
        says("THE NUMBER of it: h is 7; h becomes 31 h and each BYTE that it COVERS");
        SealedFile none = fileOf(row(1, SEAL, 0));
        none.cover(0, 0, 0, 0, 0);
        none.close();
        due("of no BYTE", none.number(0, 0), 7);
        SealedFile one = fileOf(row(1, SEAL, 0));
        one.cover(0, 0, 1, 1, 1);
        one.close();
        due("of one BYTE", one.number(0, 0), 7 * 31 + 79);
        SealedFile two = fileOf(row(1, SEAL, 0));
        two.cover(0, 0, 1, 1, 2);
        two.close();
        due("of two BYTES", two.number(0, 0), (7 * 31 + 79) * 31 + 1);
    }

    /** THE NUMBER without wrap-around, of BYTES 79 15 0 255 255 so many times, then of 0 0 if it is CLOSED over. */
    private static BigInteger wideNumber(int writes) {
        BigInteger h = BigInteger.valueOf(7);
        for (int n = 0; n < writes; n++) {
            for (int b : row(79, 15, 0, 255, 255)) {
                h = h.multiply(BigInteger.valueOf(31)).add(BigInteger.valueOf(b));
            }
        }
        return h;
    }

    /** THE NUMBER over so many WRITES of THING 15, VALUE 65535. */
    private static int numberOver(int writes) {
        SealedFile x = new SealedFile();
        for (int n = 0; n < writes; n++) {
            x.put(15, PAGE, 65535);
        }
        x.put(1, SEAL, 0);
        due("cover", x.cover(writes, 0, 5 * writes, 5 * writes, 5 * writes), 1);
        due("close", x.close(), 1);
        return x.number(writes, 0);
    }

    static void theNumberWraps() {
        says("as they are (as ints that wrap; of BYTES that there are not nothing)");
        due("below the wrap", numberOver(1), wideNumber(1).intValueExact());
        for (int writes : row(2, 3, 39)) {
            due("wrapped, of " + writes, numberOver(writes), wideNumber(writes).intValue());
        }
        due("there is one below 0 among these", Math.min(numberOver(2), numberOver(3)) < 0 ? 1 : 0, 1);
    }

    static void bytesAreTakenAsTheyAre() {
        says("each BYTE that it COVERS, as they are");
        SealedFile x = fileOf(row(0, PAGE, 65535, 1, SEAL, 0), row());
        due("255 is 255, not -1", x.number(1, 0), numberOf(79, 0, 0, 255, 255, 0, 0));
        x.alter(0, 32768 + 128);
        due("128 is 128", x.number(1, 0), numberOf(79, 0, 0, 128, 128, 0, 0));
    }

    static void ofBytesThatThereAreNotNothing() {
        says("of BYTES that there are not nothing");
        for (int d : row(12, 13, 214, 399, 400)) {
            SealedFile x = fileOf(row(0, PAGE, 1, 1, SEAL, 0));
            due("cover", x.cover(1, 0, 0, 10, d), 1);
            due("open", x.covered(1), 0);
            x.close();
            due("CLOSED, D " + d, x.covered(1), 2);
            due("THE NUMBER, D " + d, x.number(1, 0), numberOf(0, 0));
        }
        SealedFile x = fileOf(row(0, PAGE, 1, 1, SEAL, 0));
        due("cover", x.cover(1, 12, 300, 350, 400), 1);
        x.close();
        due("none", x.covered(1), 0);
        due("none", x.number(1, 0), 7);
        due("none", x.number(1, 1), 7);
        x.put(2, PAGE, 1);
        due("now there are", x.covered(1), 5);
        due("now there are", x.number(1, 0), numberOf(79, 2, 0, 0, 1));
        x.undo();
        due("now there are not", x.number(1, 0), 7);
    }

    static void theNumberIsKeptWhenItsRevisionIsClosed() {
        says("It is KEPT when its REVISION is CLOSED.");
        SealedFile x = fileOf(row(0, PAGE, 1, 1, SEAL, 0));
        due("not yet", x.number(1, 1), LEAST);
        x.alter(0, 2);
        x.close();
        due("as it was then, with the closing", x.number(1, 1), numberOf(79, 0, 0, 0, 2, 0, 0));
        x.alter(0, 3);
        due("as it was", x.number(1, 1), numberOf(79, 0, 0, 0, 2, 0, 0));
        due("as it is", x.number(1, 0), numberOf(79, 0, 0, 0, 3, 0, 0));
        x.put(2, PAGE, 2);
        x.close();
        due("another closing KEEPS it not anew", x.number(1, 1), numberOf(79, 0, 0, 0, 2, 0, 0));
    }

    static void eachSealsNumberIsKeptWithItsOwnRevision() {
        says("It is KEPT when its REVISION is CLOSED.");
        SealedFile x = fileOf(row(0, SEAL, 0, 1, SEAL, 1), row(2, SEAL, 2));
        due("the first of two", x.number(0, 1), numberOf(79, 1, 4, 0, 1, 0, 0));
        due("the second of two", x.number(1, 1), numberOf(79, 0, 4, 0, 0, 0, 0));
        due("of the next, open", x.number(2, 1), LEAST);
        x.alter(0, 1);
        x.close();
        int[] next = {79, 0, 4, 0, 1, 79, 1, 4, 0, 1, 0, 0, 0, 1};
        due("of the next, CLOSED", x.number(2, 1), numberOf(next));
        due("of the next, no FLAW", x.flaws(2), 0);
        due("the first does not COVER itself", x.flaws(0), 0);
        due("the second COVERS the first", x.flaws(1), 8);
    }

    // ---- FLAWS

    /** FLAWS of a SEAL at BYTES 5 to 9 of a REVISION of 17 BYTES. */
    private static int flawsOf(int a, int b, int c, int d) {
        SealedFile x = fileOf(row(0, PAGE, 1, 1, SEAL, 0, 2, PAGE, 1));
        due("cover", x.cover(1, a, b, c, d), 1);
        due("close", x.close(), 1);
        return x.flaws(1);
    }

    static void flaw1IsThatAIsNot0() {
        says("1 A is not 0");
        due("A 0", flawsOf(0, 5, 10, 17), 0);
        due("A 1", flawsOf(1, 5, 10, 17), 1);
        due("A 5", flawsOf(5, 5, 10, 17), 1);
    }

    static void flaw2IsThatBAndCAreNotAsUntold() {
        says("2 B and C are not as if nothing was told");
        due("as untold", flawsOf(0, 5, 10, 17), 0);
        due("B one less", flawsOf(0, 4, 10, 17), 2);
        due("B one more", flawsOf(0, 6, 10, 17), 2);
        due("C one less", flawsOf(0, 5, 9, 17), 2);
        due("C one more", flawsOf(0, 5, 11, 17), 2);
        due("both", flawsOf(0, 6, 11, 17), 2);
        due("as far from one another", flawsOf(0, 4, 9, 17), 2);
    }

    static void flaw4IsThatDIsNotAsUntold() {
        says("4 D is not");
        due("behind its REVISION", flawsOf(0, 5, 10, 17), 0);
        due("one less", flawsOf(0, 5, 10, 16), 4);
        due("one more", flawsOf(0, 5, 10, 18), 4);
        due("ahead of the closing", flawsOf(0, 5, 10, 15), 4);
        due("400", flawsOf(0, 5, 10, 400), 4);
    }

    static void flawsAreBits() {
        says("FLAWS of a SEAL of a CLOSED REVISION, as bits");
        due("1 and 2", flawsOf(1, 4, 10, 17), 3);
        due("1 and 4", flawsOf(1, 5, 10, 16), 5);
        due("2 and 4", flawsOf(0, 4, 10, 16), 6);
        due("1, 2 and 4", flawsOf(1, 4, 10, 16), 7);
        SealedFile x = fileOf(row(0, PAGE, 1, 1, SEAL, 0, 2, PAGE, 1));
        due("cover", x.cover(1, 1, 6, 10, 16), 1);
        due("of one that is open", x.flaws(1), NOT);
        x.close();
        due("CLOSED", x.flaws(1), 7);
        x.alter(2, 2);
        due("all", x.flaws(1), 15);
    }

    static void flaw8IsThatTheNumberIsNotAsKept() {
        says("8 THE NUMBER is not as it was KEPT");
        SealedFile x = fileOf(row(0, PAGE, 32, 1, SEAL, 0, 2, PAGE, 5), row(3, PAGE, 1));
        due("as KEPT", x.flaws(1), 0);
        x.alter(0, 33);
        due("a WRITE ahead of it", x.flaws(1), 8);
        x.alter(0, 32);
        due("as it was", x.flaws(1), 0);
        x.alter(2, 6);
        due("a WRITE behind it", x.flaws(1), 8);
        x.alter(2, 5);
        x.alter(1, 2);
        due("its own", x.flaws(1), 0);
        x.alter(3, 2);
        due("of a later REVISION", x.flaws(1), 0);
        x.alter(0, 257);
        due("other BYTES, THE NUMBER comes out (31 + 1 for 0 + 32)", x.flaws(1), 0);
        due("other BYTES", x.bytes(3), 1);
        x.alter(0, 258);
        due("one more", x.flaws(1), 8);
    }

    static void toldAsUntoldHasNoFlaws() {
        says("B and C are not as if nothing was told");
        SealedFile x = fileOf(row(0, PAGE, 1), row(1, SEAL, 0, 2, PAGE, 1));
        due("cover", x.cover(1, 0, 7, 12, 19), 1);
        x.close();
        due("told as if nothing was", x.flaws(1), 0);
        x = fileOf(row(0, PAGE, 1), row(1, SEAL, 0));
        due("cover", x.cover(1, 0, 7, 12, 14), 1);
        x.put(2, PAGE, 1);
        x.close();
        due("told ahead of a WRITE more: D is less", x.flaws(1), 4);
    }
}
