/** The boundary cases of promises 1 to 12: a new object, writes, revisions, bytes, things. */
public final class WritesEdgeTest extends EdgeCase {
    public static void main(String[] args) throws IllegalAccessException {
        runAll(WritesEdgeTest.class);
    }

    // ---- promise 1

    static void aNewObjectHasNoWrites() {
        says("No WRITES, REVISION 0 is open");
        SealedFile x = new SealedFile();
        due("WRITES", x.count(0), 0);
        due("WRITE 0", x.write(0, 0), BAD);
        due("to be undone", x.undo(), NOT);
        due("BYTES", x.bytes(NONE), 0);
        due("THERE", x.count(5), 0);
        due("CLOSED", x.count(1), 0);
        due("REVISION 0", x.revision(0, 0), 0);
        due("REVISION 1", x.revision(1, 0), BAD);
        due("FINDING", x.count(8), 0);
        due("the first WRITE", x.put(0, PAGE, 0), 1);
        due("is of REVISION 0", x.write(0, 3), 0);
    }

    static void aNewObjectHasLostItsSheets() {
        says("all SHEETS are LOST");
        SealedFile x = new SealedFile();
        for (int s = 0; s <= 3; s++) {
            due("lose " + s, x.lose(s), NULL);
            due("read " + s, x.read(s), NULL);
            due("tell " + s, x.tell(0, s), NULL);
            due("lay " + s, x.lay(s, BYTES, 0, 0), NULL);
            due("copy " + s, x.copy(s, 0, s, 0, 0), NULL);
            due("get " + s, x.get(s, BYTES, 0), LEAST);
            due("the FINDING", x.count(8), 1);
        }
    }

    static void objectsShareNothing() {
        says("No WRITES, REVISION 0 is open; all SHEETS are LOST.");
        SealedFile x = new SealedFile(), y = new SealedFile();
        x.put(1, SEAL, 2);
        x.close();
        x.sheet(0, BYTES, 3);
        x.lose(1);
        SealedFile z = new SealedFile();
        for (SealedFile other : new SealedFile[] {y, z}) {
            due("WRITES", other.count(0), 0);
            due("CLOSED", other.count(1), 0);
            due("FINDING", other.count(8), 0);
            due("SHEET 0", other.lose(0), NULL);
        }
    }

    // ---- promise 2

    static void putAnswersHowMany() {
        says("A WRITE more, in the open REVISION: how many.");
        SealedFile x = new SealedFile();
        due("the first", x.put(5, FIELD, 6), 1);
        due("the second, alike", x.put(5, FIELD, 6), 2);
        x.close();
        due("the third, in the next REVISION", x.put(5, FIELD, 6), 3);
        due("of REVISION 0", x.write(1, 3), 0);
        due("of REVISION 1", x.write(2, 3), 1);
        fillUpTo(x, 39);
        due("the last", x.put(5, FIELD, 6), 40);
    }

    static void putIsBad() {
        says("A WRITE more, in the open REVISION: how many. BAD");
        int[][] bad = {{-1, 0, 0}, {16, 0, 0}, {0, -1, 0}, {0, 6, 0}, {0, 0, -1}, {0, 0, 65536}, {0, SEAL, 3}, {0, SEAL, -1},
            {0, GONE, 65536}, {0, GONE, -1}, {LEAST, 0, 0}, {MOST, 0, 0}, {0, LEAST, 0}, {0, MOST, 0}, {0, 0, LEAST},
            {0, 0, MOST}, {0, SEAL, LEAST}, {0, SEAL, MOST}, {-1, 6, -1}, {16, 6, 65536}};
        SealedFile x = new SealedFile();
        for (int[] b : bad) {
            due("put(" + b[0] + ", " + b[1] + ", " + b[2] + ")", x.put(b[0], b[1], b[2]), BAD);
        }
        due("none", x.count(0), 0);
        due("the other side", x.put(0, PAGE, 0), 1);
        due("the other side", x.put(15, GONE, 65535), 2);
        due("the other side", x.put(0, SEAL, 2), 3);
    }

    static void putIsFull() {
        says("A WRITE more, in the open REVISION: how many. BAD; FULL.");
        SealedFile x = new SealedFile();
        fillUpTo(x, 40);
        due("FULL", x.put(0, PAGE, 0), FULL);
        for (int kind = 0; kind <= 5; kind++) {
            due("of any KIND", x.put(0, kind, 0), FULL);
        }
        due("BAD goes first: THING", x.put(16, PAGE, 0), BAD);
        due("BAD goes first: KIND", x.put(0, 6, 0), BAD);
        due("BAD goes first: VALUE", x.put(0, PAGE, 65536), BAD);
        due("BAD goes first: LEVEL", x.put(0, SEAL, 3), BAD);
        x.close();
        due("FULL in the next REVISION", x.put(0, PAGE, 0), FULL);
    }

    // ---- promise 3

    static void closeAnswersHowManyAreClosed() {
        says("The open REVISION is CLOSED, the next one is open: how many are CLOSED.");
        SealedFile x = new SealedFile();
        for (int r = 1; r <= 7; r++) {
            x.put(0, PAGE, 0);
            due("close", x.close(), r);
            due("the next one is open", x.revision(r, 1), 0);
            due("none behind it", x.revision(r + 1, 0), BAD);
        }
    }

    static void closeWritesItsBytesOverUndoneOnes() {
        says("The open REVISION is CLOSED");
        SealedFile x = fileOf(row(15, GONE, 65535, 15, GONE, 65535), row(15, GONE, 65535, 15, GONE, 65535));
        x.undo();
        due("close", x.close(), 2);
        int[] want = {79, 15, 5, 255, 255, 79, 15, 5, 255, 255, 0, 0, 79, 15, 5, 255, 255, 0, 1};
        for (int i = 0; i < want.length; i++) {
            due("BYTE " + i, x.bytes(i), want[i]);
        }
        due("no more", x.bytes(want.length), BAD);
    }

    static void closeOfNoWritesIsNot() {
        says("NOT: it has no WRITES");
        SealedFile x = new SealedFile();
        due("a new object", x.close(), NOT);
        x.put(0, PAGE, 0);
        x.undo();
        due("undone", x.close(), NOT);
        x.put(0, PAGE, 0);
        due("one", x.close(), 1);
        due("none in the next", x.close(), NOT);
        due("still REVISION 1", x.revision(2, 0), BAD);
        due("no BYTES more", x.bytes(NONE), 7);
        x.put(0, GONE, 0);
        due("one that is GONE", x.close(), 2);
    }

    static void closeOfTheEighthIsFull() {
        says("FULL: it is the eighth");
        SealedFile x = new SealedFile();
        closeUpTo(x, 6);
        x.put(0, PAGE, 0);
        due("the seventh", x.close(), 7);
        due("the eighth without WRITES: NOT goes first", x.close(), NOT);
        x.put(0, PAGE, 0);
        due("the eighth", x.close(), FULL);
        due("no BYTES more", x.bytes(NONE), 54);
        due("undo in the eighth", x.undo(), 7);
        due("without WRITES again", x.close(), NOT);
    }

    // ---- promise 4

    static void undoAnswersHowManyAreLeft() {
        says("The last WRITE is undone: how many are left.");
        SealedFile x = new SealedFile();
        fillUpTo(x, 40);
        for (int left = 39; left >= 0; left--) {
            due("undo", x.undo(), left);
            due("BYTES", x.bytes(NONE), 5 * left);
            due("it is no WRITE any more", x.write(left, 0), BAD);
        }
        due("none is left", x.undo(), NOT);
        due("nor THERE", x.thing(7, 0, 0), NONE);
    }

    static void undoInAnEmptyRevisionIsNot() {
        says("NOT: the open REVISION has none.");
        SealedFile x = new SealedFile();
        due("a new object", x.undo(), NOT);
        x.put(0, PAGE, 1);
        x.put(0, PAGE, 2);
        x.close();
        due("the WRITES of a CLOSED one stay", x.undo(), NOT);
        due("WRITES", x.count(0), 2);
        x.put(0, PAGE, 3);
        due("one in the open one", x.undo(), 2);
        due("none in the open one", x.undo(), NOT);
        due("as behind the CLOSED one", x.thing(0, 1, 1), 2);
    }

    static void undoUndoesChanges() {
        says("The last WRITE is undone");
        SealedFile x = fileOf(row(2, FIELD, 1, 9, SEAL, 0), row(1, NOTE, 1));
        due("a CHANGE", x.first(1), 1);
        x.undo();
        due("none any more", x.first(1), NONE);
        due("none any more", x.judge(1, 1), 0);
        due("HOLDS again", x.judge(1, 3), 1);
        x.put(2, FIELD, 2);
        x.put(3, SEAL, 1);
        due("two CHANGES", x.judge(1, 1), 2);
        x.undo();
        due("one is left", x.change(1, 0, 1), 2);
        due("one is left", x.change(1, 1, 1), NONE);
        due("THERE", x.count(5), 2);
    }

    static void undoForgetsWhatWasTold() {
        says("The last WRITE is undone");
        SealedFile x = fileOf(row(9, SEAL, 2));
        x.cover(0, 1, 2, 3, 4);
        x.undo();
        x.put(9, SEAL, 1);
        int[] untold = {0, 0, 5, 5};
        for (int what = 0; what < 4; what++) {
            due("nothing is told of the new one", x.covers(0, what), untold[what]);
        }
        x.undo();
        x.put(9, FIELD, 1);
        due("it is no SEAL", x.covers(0, 0), NOT);
        x.close();
        due("nor is it when CLOSED", x.holding(1), 0);
    }

    // ---- promise 5

    static void coverTakes0To400() {
        says("A SEAL COVERS what is told (0 to 400 each");
        SealedFile x = fileOf(row(9, SEAL, 2));
        due("all 0", x.cover(0, 0, 0, 0, 0), 1);
        due("all 400", x.cover(0, 400, 400, 400, 400), 1);
        due("0 to 400", x.cover(0, 0, 1, 399, 400), 1);
        due("A below 0", x.cover(0, -1, 0, 0, 0), BAD);
        due("all below 0", x.cover(0, -1, -1, -1, -1), BAD);
        due("D 401", x.cover(0, 0, 0, 0, 401), BAD);
        due("C, D 401", x.cover(0, 0, 0, 401, 401), BAD);
        due("B, C, D 401", x.cover(0, 0, 401, 401, 401), BAD);
        due("all 401", x.cover(0, 401, 401, 401, 401), BAD);
        due("far below", x.cover(0, LEAST, 0, 0, 0), BAD);
        due("far above", x.cover(0, 0, 0, 0, MOST), BAD);
        int[] told = {0, 1, 399, 400};
        for (int what = 0; what < 4; what++) {
            due("what was told last", x.covers(0, what), told[what]);
        }
    }

    static void coverTakesNoneLessThanTheOneAhead() {
        says("none less than the one ahead");
        SealedFile x = fileOf(row(9, SEAL, 2));
        due("one less", x.cover(0, 5, 4, 7, 8), BAD);
        due("alike", x.cover(0, 5, 5, 7, 8), 1);
        due("C one less", x.cover(0, 1, 5, 4, 8), BAD);
        due("C alike", x.cover(0, 1, 5, 5, 8), 1);
        due("D one less", x.cover(0, 1, 2, 5, 4), BAD);
        due("D alike", x.cover(0, 1, 2, 5, 5), 1);
        due("D less than A alone", x.cover(0, 3, 4, 5, 2), BAD);
        due("B below 0", x.cover(0, 0, -1, 0, 0), BAD);
        due("C below 0", x.cover(0, 0, 0, -1, 0), BAD);
        due("D below 0", x.cover(0, 0, 0, 0, -1), BAD);
        due("as told last", x.covers(0, 3), 5);
    }

    static void coverOfNoWriteIsBad() {
        says("BAD: WRITE, numbers");
        SealedFile x = new SealedFile();
        due("no WRITES", x.cover(0, 0, 0, 0, 0), BAD);
        x.put(9, SEAL, 2);
        due("-1", x.cover(-1, 0, 0, 0, 0), BAD);
        due("behind the last", x.cover(1, 0, 0, 0, 0), BAD);
        due("far", x.cover(LEAST, 0, 0, 0, 0), BAD);
        due("far", x.cover(MOST, 0, 0, 0, 0), BAD);
        due("the last", x.cover(0, 0, 0, 0, 0), 1);
        x.undo();
        due("undone", x.cover(0, 0, 0, 0, 0), BAD);
        fillUpTo(x, 39);
        x.put(9, SEAL, 2);
        due("the 40th", x.cover(39, 0, 0, 0, 0), 1);
        due("the 41st", x.cover(40, 0, 0, 0, 0), BAD);
    }

    static void coverOfNoOpenSealIsNot() {
        says("NOT: it is no SEAL, or its REVISION is CLOSED.");
        SealedFile x = fileOf(row(1, PAGE, 4, 9, SEAL, 2));
        due("no SEAL", x.cover(0, 0, 0, 0, 0), NOT);
        due("a SEAL, open", x.cover(1, 0, 0, 0, 0), 1);
        due("no SEAL: BAD goes first", x.cover(0, 1, 0, 0, 0), BAD);
        x.close();
        due("a SEAL, CLOSED", x.cover(1, 0, 5, 10, 12), NOT);
        due("a SEAL, CLOSED: BAD goes first", x.cover(1, 0, 0, 0, 401), BAD);
        due("no SEAL, CLOSED", x.cover(0, 0, 0, 0, 0), NOT);
        due("FLAWS as it was told", x.flaws(1), 6);
        x.put(1, PAGE, 4);
        due("no SEAL, open", x.cover(2, 0, 0, 0, 0), NOT);
    }

    // ---- promise 6

    static void alterTakes0To65535() {
        says("The VALUE of a WRITE is another one, in place (of a SEAL 0 to 2): what it was.");
        for (int kind : row(PAGE, FIELD, NOTE, LIST, GONE)) {
            SealedFile x = fileOf(row(1, kind, 7));
            due("to the greatest", x.alter(0, 65535), 7);
            due("above it", x.alter(0, 65536), BAD);
            due("to the least", x.alter(0, 0), 65535);
            due("below it", x.alter(0, -1), BAD);
            due("far", x.alter(0, LEAST), BAD);
            due("far", x.alter(0, MOST), BAD);
            due("3", x.alter(0, 3), 0);
            due("the same", x.alter(0, 3), 3);
            due("VALUE", x.write(0, 2), 3);
        }
    }

    static void alterOfASealTakes0To2() {
        says("of a SEAL 0 to 2");
        SealedFile x = fileOf(row(1, SEAL, 1));
        due("2", x.alter(0, 2), 1);
        due("3", x.alter(0, 3), BAD);
        due("0", x.alter(0, 0), 2);
        due("-1", x.alter(0, -1), BAD);
        due("65535", x.alter(0, 65535), BAD);
        due("as it was", x.write(0, 2), 0);
        x.close();
        due("CLOSED, 2", x.alter(0, 2), 0);
        due("CLOSED, 3", x.alter(0, 3), BAD);
    }

    static void alterOfNoWriteIsBad() {
        says("what it was. BAD.");
        SealedFile x = new SealedFile();
        due("none", x.alter(0, 0), BAD);
        x.put(1, PAGE, 1);
        due("-1", x.alter(-1, 0), BAD);
        due("behind the last", x.alter(1, 0), BAD);
        due("far", x.alter(LEAST, 0), BAD);
        due("far", x.alter(MOST, 0), BAD);
        due("the last", x.alter(0, 0), 1);
        fillUpTo(x, 40);
        due("the 40th", x.alter(39, 8), 7);
        due("the 41st", x.alter(40, 8), BAD);
    }

    static void alterIsInPlace() {
        says("is another one, in place");
        SealedFile x = fileOf(row(1, PAGE, 1, 2, PAGE, 2), row(3, PAGE, 3));
        due("of a CLOSED REVISION", x.alter(1, 0x0AFF), 2);
        int[] want = {79, 1, 0, 0, 1, 79, 2, 0, 10, 255, 0, 0, 79, 3, 0, 0, 3};
        for (int i = 0; i < want.length; i++) {
            due("BYTE " + i, x.bytes(i), want[i]);
        }
        due("of the open one", x.alter(2, 65535), 3);
        due("its BYTE", x.bytes(15), 255);
        due("its BYTE", x.bytes(16), 255);
        due("as many BYTES", x.bytes(NONE), 17);
        due("WRITES", x.count(0), 3);
        due("THING", x.thing(2, 0, 1), 0x0AFF);
    }

    static void alterMakesShadowsAndChanges() {
        says("The VALUE of a WRITE is another one");
        SealedFile x = fileOf(row(9, SEAL, 2), row(1, NOTE, 1, 1, NOTE, 1));
        due("alike", x.shadows(1), 0);
        x.alter(2, 2);
        due("unlike now", x.shadows(1), 2);
        due("VERDICT now", x.judge(0, 0), 3);
        x.alter(1, 2);
        due("alike again", x.shadows(1), 0);
        due("VERDICT again", x.judge(0, 0), 2);
        x.alter(0, 1);
        due("LEVEL 1", x.allowed(1), 1);
        due("HOLDS no more", x.judge(0, 3), 0);
    }

    // ---- promise 7

    static void readTakesThreeItemsForEach() {
        says("its items, three for each, as many as are whole");
        int[] items = {1, FIELD, 5, 2, NOTE, 6, 3, PAGE, 7};
        for (int n = 0; n <= 9; n++) {
            SealedFile x = new SealedFile();
            lay(x, 0, INTS, java.util.Arrays.copyOf(items, n));
            due(n + " items", x.read(0), n / 3);
            due("WRITES", x.count(0), n / 3);
        }
        SealedFile x = new SealedFile();
        lay(x, 3, SHORTS, items);
        x.read(3);
        for (int w = 0; w < 3; w++) {
            for (int what = 0; what < 3; what++) {
                due("write(" + w + ", " + what + ")", x.write(w, what), items[3 * w + what]);
            }
        }
    }

    static void readTakes60Items() {
        says("as many as are whole");
        SealedFile x = new SealedFile();
        x.sheet(0, BYTES, 60);
        due("all 60", x.read(0), 20);
        x.sheet(0, BYTES, 59);
        due("of 59", x.read(0), 19);
        x.sheet(0, BYTES, 60);
        due("one more", x.read(0), 1);
        due("WRITES", x.count(0), 40);
    }

    static void readEndsWhereOneMayNotBe() {
        says("as long as each may be: how many");
        int[][] bad = {{-1, 0, 0}, {16, 0, 0}, {0, -1, 0}, {0, 6, 0}, {0, 0, -1}, {0, 0, 65536}, {0, SEAL, 3}};
        int[][] good = {{0, 0, 0}, {15, 0, 0}, {0, 0, 0}, {0, 5, 0}, {0, 0, 0}, {0, 0, 65535}, {0, SEAL, 2}};
        for (int k = 0; k < bad.length; k++) {
            SealedFile x = new SealedFile();
            lay(x, 0, INTS, 1, 1, 1, bad[k][0], bad[k][1], bad[k][2], 2, 2, 2);
            due("the second may not be", x.read(0), 1);
            due("the first stays, the third is not looked at", x.count(0), 1);
            lay(x, 0, INTS, bad[k][0], bad[k][1], bad[k][2], 2, 2, 2);
            due("the first may not be", x.read(0), 0);
            lay(x, 0, INTS, 1, 1, 1, good[k][0], good[k][1], good[k][2], 2, 2, 2);
            due("all may be", x.read(0), 3);
        }
    }

    static void readEndsWhenItIsFull() {
        says("as long as each may be");
        SealedFile x = new SealedFile();
        lay(x, 0, BYTES, 1, 1, 1, 2, 2, 2, 3, 3, 3);
        fillUpTo(x, 37);
        due("three more", x.read(0), 3);
        due("none more", x.read(0), 0);
        x.undo();
        due("one more", x.read(0), 1);
        due("WRITES", x.count(0), 40);
        due("it is the first", x.write(39, 0), 1);
    }

    static void whatWasReadIsToldAtOnce() {
        says("WRITES from a SHEET: its items, three for each");
        SealedFile x = fileOf(row(9, SEAL, 2), row());
        lay(x, 0, INTS, 1, NOTE, 1, 1, NOTE, 2);
        due("two", x.read(0), 2);
        due("what THING 1 is", x.thing(1, 1, 1), 2);
        due("SHADOWED", x.shadows(1), 2);
        due("VERDICT", x.judge(0, 0), 3);
        due("CHANGES", x.judge(0, 1), 1);
        due("FIRST", x.first(1), 1);
        due("its BYTES", x.bytes(NONE), 17);
        due("BETTER", x.better(0), 1);
        x = fileOf(row(9, SEAL, 2));
        x.cover(0, 0, 0, 5, 400);
        x.close();
        lay(x, 0, INTS, 1, NOTE, 1);
        due("FLAWS ahead of it", x.flaws(0), 4);
        due("one", x.read(0), 1);
        due("FLAWS behind it: its BYTES are COVERED", x.flaws(0), 12);
    }

    static void readOfBytesAndShortsBelow0() {
        says("WRITES from a SHEET: its items");
        SealedFile x = new SealedFile();
        lay(x, 0, BYTES, 1, PAGE, 127, 1, PAGE, 128);
        due("a byte of 128 is below 0", x.read(0), 1);
        lay(x, 0, SHORTS, 1, PAGE, 32767, 1, PAGE, 32768);
        due("a short of 32768 is below 0", x.read(0), 1);
        lay(x, 0, BYTES, 256 + 3, 256 + NOTE, 256 + 4);
        due("what is left of 256 and more", x.read(0), 1);
        due("its THING", x.write(2, 0), 3);
    }

    static void readRefuses() {
        says("how many. BAD; NULL.");
        SealedFile x = new SealedFile();
        for (int s : row(-1, 4, LEAST, MOST)) {
            due("SHEET " + s, x.read(s), BAD);
        }
        due("BAD is no FINDING", x.count(8), 0);
        due("LOST", x.read(3), NULL);
        due("NULL is one", x.count(8), 1);
        x.sheet(3, BYTES, 3);
        due("not LOST", x.read(3), 1);
        x.sheet(3, BYTES, 0);
        due("no items", x.read(3), 0);
        x.lose(3);
        due("LOST", x.read(3), NULL);
        due("WRITES", x.count(0), 1);
    }

    // ---- promise 8

    static void writeTells0To4() {
        says("The THING (what = 0), KIND (1), VALUE (2), REVISION (3), the first of its BYTES (4) of a WRITE. BAD.");
        SealedFile x = fileOf(row(15, GONE, 65535, 0, PAGE, 0), row(9, SEAL, 2));
        int[][] want = {{15, GONE, 65535, 0, 0}, {0, PAGE, 0, 0, 5}, {9, SEAL, 2, 1, 12}};
        for (int w = 0; w < 3; w++) {
            for (int what = 0; what <= 4; what++) {
                due("write(" + w + ", " + what + ")", x.write(w, what), want[w][what]);
            }
            for (int what : row(-1, 5, LEAST, MOST)) {
                due("what " + what, x.write(w, what), BAD);
            }
        }
        for (int w : row(-1, 3, 40, LEAST, MOST)) {
            for (int what = 0; what <= 4; what++) {
                due("WRITE " + w, x.write(w, what), BAD);
            }
        }
    }

    // ---- promise 9

    static void revisionTells0To3() {
        says("The first WRITE (what = 0; as many as there are: it has none), how many WRITES (1), the first BYTE (2), behind the last one (3) of a REVISION that is CLOSED or open. BAD.");
        SealedFile x = fileOf(row(1, PAGE, 1, 2, PAGE, 2), row(3, PAGE, 3), row());
        int[][] want = {{0, 2, 0, 12}, {2, 1, 12, 19}, {3, 0, 19, 19}};
        for (int r = 0; r < 3; r++) {
            for (int what = 0; what <= 3; what++) {
                due("revision(" + r + ", " + what + ")", x.revision(r, what), want[r][what]);
            }
            for (int what : row(-1, 4, LEAST, MOST)) {
                due("what " + what, x.revision(r, what), BAD);
            }
        }
        for (int r : row(-1, 3, 7, 8, LEAST, MOST)) {
            for (int what = 0; what <= 3; what++) {
                due("REVISION " + r, x.revision(r, what), BAD);
            }
        }
    }

    static void anEmptyRevisionBeginsBehindAllWrites() {
        says("as many as there are: it has none");
        SealedFile x = new SealedFile();
        int[] none = {0, 0, 0, 0};
        for (int what = 0; what <= 3; what++) {
            due("a new object, " + what, x.revision(0, what), none[what]);
        }
        fillUpTo(x, 40);
        due("40 in it", x.revision(0, 1), 40);
        x.close();
        int[] full = {40, 0, 202, 202};
        for (int what = 0; what <= 3; what++) {
            due("behind 40, " + what, x.revision(1, what), full[what]);
        }
        due("the 40 end behind their closing", x.revision(0, 3), 202);
    }

    // ---- promise 10

    static void bytesTellsHowManyOrOne() {
        says("How many BYTES there are (i = NONE), BYTE i. BAD: there is no such one.");
        SealedFile x = new SealedFile();
        due("none", x.bytes(NONE), 0);
        due("BYTE 0", x.bytes(0), BAD);
        x.put(1, PAGE, 2);
        due("five", x.bytes(NONE), 5);
        due("the last", x.bytes(4), 2);
        for (int i : row(5, 6, 214, 215, 216, 400, MOST, -2, -3, LEAST)) {
            due("BYTE " + i, x.bytes(i), BAD);
        }
        x.undo();
        due("undone", x.bytes(0), BAD);
        due("undone", x.bytes(NONE), 0);
    }

    // ---- promise 11

    static void thingTells0To2() {
        says("Behind a REVISION of a THING the KIND (what = 0), VALUE (1), WRITE (2); NONE: it is not THERE. BAD.");
        SealedFile x = fileOf(row(0, PAGE, 65535), row(15, NOTE, 0));
        int[][] want = {{PAGE, 65535, 0}, {NOTE, 0, 1}};
        for (int what = 0; what <= 2; what++) {
            due("THING 0, " + what, x.thing(0, 0, what), want[0][what]);
            due("THING 15, " + what, x.thing(15, 1, what), want[1][what]);
            due("THING 15 ahead of it, " + what, x.thing(15, 0, what), NONE);
            for (int t : row(-1, 16, LEAST, MOST)) {
                due("THING " + t, x.thing(t, 0, what), BAD);
            }
            for (int r : row(-1, 2, 8, LEAST, MOST)) {
                due("REVISION " + r, x.thing(0, r, what), BAD);
            }
        }
        for (int what : row(-1, 3, LEAST, MOST)) {
            due("what " + what, x.thing(0, 0, what), BAD);
            due("what " + what + ", not THERE", x.thing(7, 0, what), BAD);
        }
    }

    // ---- promise 12

    static void shadowsTellsBits() {
        says("THINGS that are SHADOWED in a REVISION, as bits. BAD.");
        SealedFile x = fileOf(row(0, PAGE, 0, 0, PAGE, 1, 15, PAGE, 0, 15, PAGE, 1), row(1, PAGE, 0));
        due("THINGS 0 and 15", x.shadows(0), 0x8001);
        due("none", x.shadows(1), 0);
        for (int r : row(-1, 2, 8, LEAST, MOST)) {
            due("REVISION " + r, x.shadows(r), BAD);
        }
        SealedFile all = new SealedFile();
        for (int t = 0; t < 16; t++) {
            all.put(t, PAGE, 0);
            all.put(t, PAGE, 1);
        }
        due("all", all.shadows(0), 65535);
        due("how many", all.count(6), 16);
    }

    static void shadowsOfTheEighth() {
        says("THINGS that are SHADOWED in a REVISION");
        SealedFile x = new SealedFile();
        closeUpTo(x, 7);
        due("the eighth", x.shadows(7), 0);
        x.put(3, PAGE, 0);
        x.put(3, PAGE, 1);
        due("the eighth", x.shadows(7), 8);
        due("the ninth", x.shadows(8), BAD);
        due("the seventh", x.shadows(6), 0);
    }
}
