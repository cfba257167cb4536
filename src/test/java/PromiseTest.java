/**
 * Each promise of the document by number: ordinary inputs, the edges that the
 * document names, and wrong inputs. What is due was worked out by hand.
 */
public final class PromiseTest {
    private static final int NONE = -1, BAD = -2, NOT = -3, FULL = -4, LEAST = Integer.MIN_VALUE;
    private static final int NULL = -11, INDEX = -12, CAST = -13, STORE = -14, SIZE = -15;
    private static final int PAGE = 0, FIELD = 1, NOTE = 2, LIST = 3, SEAL = 4, GONE = 5;
    private static final int[] FAR = {Integer.MIN_VALUE, -2, Integer.MAX_VALUE};
    private static int wrong = 0;

    private static void due(int promise, String what, long got, long want) {
        if (got != want) {
            wrong++;
            System.out.println("promise " + promise + ": " + what + " answered " + got + ", due is " + want);
        }
    }

    /** A file whose WRITES are told as thing, kind, value; a CLOSED REVISION for each row but the last. */
    private static SealedFile fileOf(int[]... revisions) {
        SealedFile x = new SealedFile();
        for (int r = 0; r < revisions.length; r++) {
            for (int i = 0; i + 2 < revisions[r].length; i += 3) {
                x.put(revisions[r][i], revisions[r][i + 1], revisions[r][i + 2]);
            }
            if (r + 1 < revisions.length) {
                x.close();
            }
        }
        return x;
    }

    private static int[] row(int... items) {
        return items;
    }

    private static void newObject() {
        SealedFile x = new SealedFile();
        for (int what = 0; what <= 8; what++) {
            due(1, "count " + what, x.count(what), what == 7 ? 3 : 0);
        }
        due(1, "revision(0, 0)", x.revision(0, 0), 0);
        due(1, "revision(1, 0)", x.revision(1, 0), BAD);
        for (int t = 0; t < 16; t++) {
            due(1, "thing " + t, x.thing(t, 0, 0), NONE);
        }
        for (int s = 0; s < 4; s++) {
            due(1, "get of sheet " + s, x.get(s, 0, 0), LEAST);
            due(1, "lose " + s, x.lose(s), NULL);
        }
        due(1, "count(8)", x.count(8), 1);
        SealedFile other = new SealedFile();
        x.put(0, PAGE, 1);
        due(1, "another object", other.count(0), 0);
    }

    private static void put() {
        SealedFile x = new SealedFile();
        due(2, "put", x.put(0, PAGE, 0), 1);
        due(2, "edges", x.put(15, GONE, 65535), 2);
        due(2, "level 2", x.put(15, SEAL, 2), 3);
        due(2, "thing -1", x.put(-1, PAGE, 0), BAD);
        due(2, "thing 16", x.put(16, PAGE, 0), BAD);
        due(2, "kind -1", x.put(0, -1, 0), BAD);
        due(2, "kind 6", x.put(0, 6, 0), BAD);
        due(2, "value -1", x.put(0, PAGE, -1), BAD);
        due(2, "value 65536", x.put(0, PAGE, 65536), BAD);
        due(2, "level 3", x.put(0, SEAL, 3), BAD);
        due(2, "level -1", x.put(0, SEAL, -1), BAD);
        for (int far : FAR) {
            due(2, "far thing", x.put(far, PAGE, 0), BAD);
            due(2, "far kind", x.put(0, far, 0), BAD);
            due(2, "far value", x.put(0, PAGE, far), BAD);
        }
        due(2, "nothing changed", x.count(0), 3);
        for (int i = 4; i <= 40; i++) {
            due(2, "put " + i, x.put(1, FIELD, i), i);
        }
        due(2, "the 41st", x.put(1, FIELD, 1), FULL);
        due(2, "BAD ahead of FULL", x.put(16, FIELD, 1), BAD);
        due(2, "BAD level ahead of FULL", x.put(1, SEAL, 3), BAD);
        due(2, "nothing changed", x.count(2), 200);
    }

    private static void close() {
        SealedFile x = new SealedFile();
        due(3, "no WRITES", x.close(), NOT);
        for (int r = 1; r <= 7; r++) {
            x.put(0, PAGE, r);
            due(3, "close " + r, x.close(), r);
            due(3, "none in the next", x.close(), NOT);
        }
        due(3, "the eighth, empty: NOT ahead of FULL", x.close(), NOT);
        x.put(0, PAGE, 9);
        due(3, "the eighth", x.close(), FULL);
        due(3, "still open", x.count(1), 7);
        due(3, "its WRITE can be undone", x.undo(), 7);
        due(3, "BYTES", x.bytes(NONE), 49);
        x = fileOf(row(0, PAGE, 1, 1, PAGE, 1, 2, PAGE, 1));
        x.undo();
        due(3, "how many are CLOSED, not WRITES", x.close(), 1);
        due(3, "the closing where BYTES were undone", x.bytes(10), 0);
        due(3, "the closing where BYTES were undone", x.bytes(11), 0);
        due(3, "behind the closing", x.bytes(12), BAD);
    }

    private static void undo() {
        SealedFile x = new SealedFile();
        due(4, "none", x.undo(), NOT);
        x.put(0, PAGE, 1);
        x.put(0, PAGE, 2);
        due(4, "undo", x.undo(), 1);
        due(4, "what it is", x.thing(0, 0, 1), 1);
        due(4, "shadows", x.shadows(0), 0);
        due(4, "BYTES", x.bytes(NONE), 5);
        due(4, "no such WRITE", x.write(1, 0), BAD);
        x.close();
        due(4, "CLOSED", x.undo(), NOT);
        due(4, "nothing changed", x.count(0), 1);
        x.put(3, SEAL, 0);
        x.cover(1, 1, 1, 1, 1);
        x.undo();
        x.put(3, SEAL, 0);
        due(4, "what was told of it is undone too", x.covers(1, 0), 0);
        due(4, "what was told of it is undone too", x.covers(1, 1), 7);
    }

    private static void cover() {
        SealedFile x = fileOf(row(0, PAGE, 1, 1, SEAL, 0));
        due(5, "edges", x.cover(1, 0, 0, 400, 400), 1);
        due(5, "all alike", x.cover(1, 7, 7, 7, 7), 1);
        due(5, "the later one is told", x.covers(1, 3), 7);
        due(5, "write -1", x.cover(-1, 0, 0, 0, 0), BAD);
        due(5, "write 2", x.cover(2, 0, 0, 0, 0), BAD);
        due(5, "a below 0", x.cover(1, -1, 0, 0, 0), BAD);
        due(5, "d 401", x.cover(1, 0, 0, 0, 401), BAD);
        due(5, "all 401", x.cover(1, 401, 401, 401, 401), BAD);
        due(5, "b less", x.cover(1, 2, 1, 3, 4), BAD);
        due(5, "c less", x.cover(1, 1, 3, 2, 4), BAD);
        due(5, "d less", x.cover(1, 1, 2, 4, 3), BAD);
        due(5, "nothing changed", x.covers(1, 0), 7);
        due(5, "no SEAL", x.cover(0, 0, 0, 0, 0), NOT);
        due(5, "no SEAL, BAD ahead of NOT", x.cover(0, 0, 0, 0, 401), BAD);
        x.close();
        due(5, "CLOSED", x.cover(1, 0, 0, 0, 0), NOT);
        due(5, "CLOSED, BAD ahead of NOT", x.cover(1, 1, 0, 0, 0), BAD);
        due(5, "nothing changed", x.covers(1, 0), 7);
    }

    private static void alter() {
        SealedFile x = fileOf(row(0, PAGE, 258, 1, SEAL, 1), row(2, GONE, 7));
        due(6, "alter", x.alter(0, 65535), 258);
        due(6, "in place", x.bytes(3), 255);
        due(6, "in place", x.bytes(4), 255);
        due(6, "VALUE", x.write(0, 2), 65535);
        due(6, "thing", x.thing(0, 0, 1), 65535);
        due(6, "back", x.alter(0, 258), 65535);
        due(6, "bytes", x.bytes(3), 1);
        due(6, "bytes", x.bytes(4), 2);
        due(6, "of a SEAL", x.alter(1, 2), 1);
        due(6, "of a SEAL, 3", x.alter(1, 3), BAD);
        due(6, "of a SEAL, -1", x.alter(1, -1), BAD);
        due(6, "65536", x.alter(0, 65536), BAD);
        due(6, "-1", x.alter(0, -1), BAD);
        due(6, "write -1", x.alter(-1, 0), BAD);
        due(6, "write 3", x.alter(3, 0), BAD);
        due(6, "nothing changed", x.write(1, 2), 2);
        due(6, "of the open REVISION", x.alter(2, 8), 7);
        due(6, "BYTES behind a closing", x.bytes(16), 8);
    }

    private static void lay(SealedFile x, int s, int form, int... items) {
        x.sheet(s, form, items.length);
        for (int i = 0; i < items.length; i++) {
            x.lay(s, form, i, items[i]);
        }
    }

    private static void read() {
        SealedFile x = new SealedFile();
        due(7, "sheet -1", x.read(-1), BAD);
        due(7, "sheet 4", x.read(4), BAD);
        due(7, "BAD tells no FINDING", x.count(8), 0);
        due(7, "LOST", x.read(3), NULL);
        due(7, "the FINDING", x.count(8), 1);
        lay(x, 0, 2, 1, FIELD, 65535, 2, PAGE, 4, 9, 9);
        due(7, "two whole ones", x.read(0), 2);
        due(7, "the first", x.write(0, 2), 65535);
        due(7, "the second", x.write(1, 0), 2);
        lay(x, 1, 1, 3, SEAL, 2, 3, SEAL, 3, 3, SEAL, 1);
        due(7, "up to one that may not be", x.read(1), 1);
        due(7, "those ahead of it stay", x.count(0), 3);
        lay(x, 2, 1, 3, PAGE, 40000);
        due(7, "a short is below 0", x.read(2), 0);
        lay(x, 2, 0, 3, PAGE, 127, 4, PAGE, 128);
        due(7, "a byte is below 0", x.read(2), 1);
        x.sheet(3, 0, 0);
        due(7, "no items", x.read(3), 0);
        x.sheet(3, 0, 2);
        due(7, "none whole", x.read(3), 0);
        x.sheet(3, 2, 60);
        due(7, "twenty", x.read(3), 20);
        due(7, "up to FULL", x.read(3), 16);
        due(7, "FULL", x.read(3), 0);
        due(7, "WRITES", x.count(0), 40);
        due(7, "what was read is THERE", x.thing(0, 0, 2), 39);
    }

    private static void write() {
        SealedFile x = fileOf(row(3, NOTE, 500, 4, SEAL, 1), row(5, LIST, 6));
        int[][] want = {{3, NOTE, 500, 0, 0}, {4, SEAL, 1, 0, 5}, {5, LIST, 6, 1, 12}};
        for (int w = 0; w < 3; w++) {
            for (int what = 0; what < 5; what++) {
                due(8, "write(" + w + ", " + what + ")", x.write(w, what), want[w][what]);
            }
        }
        due(8, "what 5", x.write(0, 5), BAD);
        due(8, "what -1", x.write(0, -1), BAD);
        due(8, "write 3", x.write(3, 0), BAD);
        due(8, "write -1", x.write(-1, 0), BAD);
        for (int far : FAR) {
            due(8, "far write", x.write(far, 0), BAD);
            due(8, "far what", x.write(0, far), BAD);
        }
    }

    private static void revision() {
        SealedFile x = fileOf(row(3, NOTE, 5, 4, SEAL, 1), row(5, LIST, 6), row());
        int[][] want = {{0, 2, 0, 12}, {2, 1, 12, 19}, {3, 0, 19, 19}};
        for (int r = 0; r < 3; r++) {
            for (int what = 0; what < 4; what++) {
                due(9, "revision(" + r + ", " + what + ")", x.revision(r, what), want[r][what]);
            }
        }
        x.put(0, PAGE, 0);
        due(9, "first of the open one", x.revision(2, 0), 3);
        due(9, "WRITES of the open one", x.revision(2, 1), 1);
        due(9, "behind the open one", x.revision(2, 3), 24);
        due(9, "what 4", x.revision(0, 4), BAD);
        due(9, "what -1", x.revision(0, -1), BAD);
        due(9, "revision 3", x.revision(3, 0), BAD);
        due(9, "revision -1", x.revision(-1, 0), BAD);
        due(9, "far revision", x.revision(Integer.MIN_VALUE, 0), BAD);
    }

    private static void bytes() {
        SealedFile x = fileOf(row(15, GONE, 65535), row(1, LIST, 258), row());
        int[] want = {79, 15, 5, 255, 255, 0, 0, 79, 1, 3, 1, 2, 0, 1};
        due(10, "how many", x.bytes(NONE), want.length);
        for (int i = 0; i < want.length; i++) {
            due(10, "byte " + i, x.bytes(i), want[i]);
        }
        due(10, "behind all", x.bytes(want.length), BAD);
        due(10, "-2", x.bytes(-2), BAD);
        due(10, "far", x.bytes(Integer.MAX_VALUE), BAD);
        x.put(0, PAGE, 0);
        due(10, "of the open one", x.bytes(14), 79);
        x.undo();
        due(10, "undone", x.bytes(14), BAD);
    }

    private static void thing() {
        SealedFile x = fileOf(row(1, FIELD, 7, 1, FIELD, 8), row(2, NOTE, 1), row(1, GONE, 9), row(1, PAGE, 3));
        int[] kinds = {FIELD, FIELD, NONE, PAGE}, values = {8, 8, NONE, 3}, writes = {1, 1, NONE, 4};
        for (int r = 0; r < 4; r++) {
            due(11, "KIND behind " + r, x.thing(1, r, 0), kinds[r]);
            due(11, "VALUE behind " + r, x.thing(1, r, 1), values[r]);
            due(11, "WRITE behind " + r, x.thing(1, r, 2), writes[r]);
        }
        due(11, "never written", x.thing(15, 3, 2), NONE);
        due(11, "not yet", x.thing(2, 0, 0), NONE);
        due(11, "thing -1", x.thing(-1, 0, 0), BAD);
        due(11, "thing 16", x.thing(16, 0, 0), BAD);
        due(11, "revision 4", x.thing(1, 4, 0), BAD);
        due(11, "revision -1", x.thing(1, -1, 0), BAD);
        due(11, "what 3, not THERE", x.thing(15, 0, 3), BAD);
        due(11, "what -1", x.thing(1, 0, -1), BAD);
    }

    private static void shadows() {
        SealedFile x = fileOf(row(0, PAGE, 1, 1, PAGE, 1, 0, PAGE, 1), row(0, PAGE, 2, 15, GONE, 1, 15, GONE, 2),
            row(3, FIELD, 1, 4, PAGE, 0, 3, NOTE, 1), row(5, NOTE, 1, 5, NOTE, 2, 5, NOTE, 1));
        due(12, "alike ones, and of two THINGS", x.shadows(0), 0);
        due(12, "GONE of unlike VALUE", x.shadows(1), 1 << 15);
        due(12, "unlike KIND, others between", x.shadows(2), 1 << 3);
        due(12, "there and back", x.shadows(3), 1 << 5);
        due(12, "revision 4", x.shadows(4), BAD);
        due(12, "revision -1", x.shadows(-1), BAD);
        x.alter(2, 2);
        due(12, "altered", x.shadows(0), 1);
    }

    private static void covers() {
        SealedFile x = fileOf(row(0, PAGE, 1), row(1, SEAL, 0, 2, PAGE, 2));
        int[] want = {0, 7, 12, 17};
        for (int what = 0; what < 4; what++) {
            due(13, "untold " + what, x.covers(1, what), want[what]);
        }
        x.put(3, PAGE, 3);
        due(13, "D goes on with its REVISION", x.covers(1, 3), 22);
        x.close();
        x.put(3, PAGE, 4);
        due(13, "D behind the closing, no further", x.covers(1, 3), 24);
        x.put(4, SEAL, 0);
        x.cover(5, 1, 2, 3, 400);
        int[] told = {1, 2, 3, 400};
        for (int what = 0; what < 4; what++) {
            due(13, "told " + what, x.covers(5, what), told[what]);
        }
        due(13, "what 4", x.covers(1, 4), BAD);
        due(13, "what -1", x.covers(1, -1), BAD);
        due(13, "no such WRITE", x.covers(6, 0), BAD);
        due(13, "write -1", x.covers(-1, 0), BAD);
        due(13, "no SEAL", x.covers(0, 0), NOT);
        due(13, "no SEAL, BAD ahead of NOT", x.covers(0, 4), BAD);
    }

    private static void covered() {
        SealedFile x = fileOf(row(0, PAGE, 1, 1, SEAL, 0));
        due(14, "open", x.covered(1), 5);
        x.put(2, PAGE, 0);
        due(14, "open, one more", x.covered(1), 10);
        x.cover(1, 2, 4, 10, 400);
        due(14, "told, of BYTES that there are", x.covered(1), 7);
        x.cover(1, 100, 200, 300, 400);
        due(14, "none of these", x.covered(1), 0);
        x.cover(1, 0, 400, 400, 400);
        due(14, "all", x.covered(1), 15);
        x.close();
        due(14, "all, CLOSED", x.covered(1), 17);
        due(14, "no SEAL", x.covered(0), NOT);
        due(14, "no such WRITE", x.covered(3), BAD);
        due(14, "write -1", x.covered(-1), BAD);
    }

    private static int numberOf(int... bytes) {
        int h = 7;
        for (int b : bytes) {
            h = 31 * h + b;
        }
        return h;
    }

    private static void number() {
        SealedFile x = fileOf(row(2, FIELD, 300, 1, SEAL, 1));
        due(15, "open", x.number(1, 0), LEAST);
        due(15, "open, KEPT", x.number(1, 1), LEAST);
        x.close();
        due(15, "all but its own", x.number(1, 0), numberOf(79, 2, 1, 1, 44, 0, 0));
        due(15, "KEPT", x.number(1, 1), numberOf(79, 2, 1, 1, 44, 0, 0));
        x.alter(1, 2);
        due(15, "its own are not COVERED", x.number(1, 0), numberOf(79, 2, 1, 1, 44, 0, 0));
        x.alter(0, 301);
        due(15, "as it is", x.number(1, 0), numberOf(79, 2, 1, 1, 45, 0, 0));
        due(15, "as KEPT", x.number(1, 1), numberOf(79, 2, 1, 1, 44, 0, 0));
        due(15, "no SEAL", x.number(0, 0), LEAST);
        due(15, "what 2", x.number(1, 2), LEAST);
        due(15, "what -1", x.number(1, -1), LEAST);
        due(15, "no such WRITE", x.number(2, 0), LEAST);
        due(15, "write -1", x.number(-1, 1), LEAST);
        x.put(3, SEAL, 0);
        x.cover(2, 16, 17, 17, 400);
        x.close();
        due(15, "told, to behind all", x.number(2, 1), numberOf(0, 0, 1));
        x.put(0, PAGE, 1);
        due(15, "BYTES that came later", x.number(2, 0), numberOf(0, 0, 1, 79, 0, 0, 0, 1));
        x.undo();
        due(15, "and went", x.number(2, 0), numberOf(0, 0, 1));
        SealedFile nothing = fileOf(row(3, SEAL, 0));
        nothing.cover(0, 3, 3, 9, 9);
        nothing.close();
        due(15, "of nothing", nothing.number(0, 0), 7);
    }

    private static int flawsOf(int a, int b, int c, int d) {
        SealedFile x = fileOf(row(0, PAGE, 1, 1, SEAL, 0, 2, PAGE, 1));
        x.cover(1, a, b, c, d);
        x.close();
        return x.flaws(1);
    }

    private static void flaws() {
        due(16, "told as if untold", flawsOf(0, 5, 10, 17), 0);
        due(16, "A", flawsOf(1, 5, 10, 17), 1);
        due(16, "B", flawsOf(0, 4, 10, 17), 2);
        due(16, "C", flawsOf(0, 5, 11, 17), 2);
        due(16, "B and C", flawsOf(0, 4, 11, 17), 2);
        due(16, "D, as it was open", flawsOf(0, 5, 10, 15), 4);
        due(16, "D", flawsOf(0, 5, 10, 18), 4);
        due(16, "all edges", flawsOf(2, 3, 4, 5), 7);
        SealedFile x = fileOf(row(0, PAGE, 1, 1, SEAL, 0));
        due(16, "open", x.flaws(1), NOT);
        x.close();
        due(16, "CLOSED", x.flaws(1), 0);
        x.put(0, PAGE, 2);
        due(16, "later BYTES", x.flaws(1), 0);
        x.alter(2, 3);
        due(16, "later BYTES altered", x.flaws(1), 0);
        x.alter(1, 2);
        due(16, "its own BYTES", x.flaws(1), 0);
        x.alter(0, 2);
        due(16, "altered", x.flaws(1), 8);
        x.alter(0, 1);
        due(16, "altered back", x.flaws(1), 0);
        due(16, "no SEAL", x.flaws(0), NOT);
        due(16, "no such WRITE", x.flaws(3), BAD);
        due(16, "write -1", x.flaws(-1), BAD);
        SealedFile far = fileOf(row(1, SEAL, 2));
        far.cover(0, 0, 0, 5, 400);
        far.close();
        due(16, "far D at first", far.flaws(0), 4);
        far.put(0, PAGE, 0);
        due(16, "far D, more BYTES", far.flaws(0), 12);
    }

    /** Of what sort a CHANGE of THING 1 is from one WRITE to another; the SEAL is THING 9 of the first REVISION. */
    private static int sortOf(int kind, int value, int newKind, int newValue) {
        return fileOf(row(1, kind, value, 9, SEAL, 0), row(1, newKind, newValue)).judge(1, 0);
    }

    private static void judge() {
        int[][] sorts = {
            // kind, value, new kind, new value, sort
            {FIELD, 1, FIELD, 2, 1}, {FIELD, 1, FIELD, 1, 0}, {FIELD, 1, NOTE, 1, 3}, {FIELD, 1, GONE, 0, 3},
            {GONE, 1, FIELD, 1, 3}, {GONE, 1, SEAL, 1, 1}, {GONE, 1, NOTE, 1, 2}, {GONE, 1, GONE, 2, 0},
            {GONE, 1, PAGE, 1, 3}, {GONE, 1, LIST, 1, 3}, {NOTE, 1, NOTE, 2, 3}, {NOTE, 1, GONE, 1, 3},
            {NOTE, 1, SEAL, 1, 3}, {SEAL, 1, SEAL, 2, 3}, {SEAL, 1, GONE, 2, 3}, {PAGE, 1, PAGE, 2, 3},
            {LIST, 0, LIST, 4, 2}, {LIST, 4, LIST, 0, 2}, {LIST, 0, LIST, 2, 3}, {LIST, 2, LIST, 0, 3},
            {LIST, 2, LIST, 6, 2}, {LIST, 0, LIST, 512, 3}, {LIST, 0, PAGE, 0, 3}, {PAGE, 0, LIST, 0, 3},
            {LIST, 3, GONE, 3, 3}, {LIST, 0, LIST, 1 << 15, 2}};
        for (int[] s : sorts) {
            due(17, s[0] + " " + s[1] + " to " + s[2] + " " + s[3], sortOf(s[0], s[1], s[2], s[3]), s[4]);
        }
        SealedFile x = fileOf(row(1, FIELD, 1, 9, SEAL, 2), row(1, FIELD, 2, 2, NOTE, 1), row(2, NOTE, 3), row(2, GONE, 0));
        due(17, "a NOTE comes, changes, goes: VERDICT", x.judge(1, 0), 2);
        due(17, "CHANGES", x.judge(1, 1), 4);
        due(17, "TAMPERING", x.judge(1, 2), 0);
        due(17, "HOLDS", x.judge(1, 3), 1);
        x.alter(1, 1);
        due(17, "a lower LEVEL", x.judge(1, 3), 0);
        x.alter(1, 2);
        x.alter(0, 5);
        due(17, "FLAWS", x.judge(1, 3), 0);
        due(17, "no less a VERDICT", x.judge(1, 0), 2);
        due(17, "what 4", x.judge(1, 4), BAD);
        due(17, "what -1", x.judge(1, -1), BAD);
        due(17, "no such WRITE", x.judge(6, 0), BAD);
        due(17, "no SEAL", x.judge(0, 0), NOT);
        due(17, "no SEAL, BAD ahead of NOT", x.judge(0, 4), BAD);
        x.put(5, SEAL, 0);
        due(17, "open", x.judge(5, 0), NOT);
        judgeShadowed();
        judgeAgainstSeal();
    }

    private static void judgeShadowed() {
        SealedFile x = fileOf(row(1, FIELD, 1, 9, SEAL, 2), row(1, FIELD, 2, 1, FIELD, 1));
        due(17, "SHADOWED, and as it was: VERDICT", x.judge(1, 0), 3);
        due(17, "SHADOWED, and as it was: CHANGES", x.judge(1, 1), 1);
        due(17, "SHADOWED, and as it was: TAMPERING", x.judge(1, 2), 1);
        x = fileOf(row(1, FIELD, 1, 9, SEAL, 2), row(1, FIELD, 2, 1, FIELD, 2));
        due(17, "twice alike", x.judge(1, 0), 1);
        x = fileOf(row(1, FIELD, 1, 1, FIELD, 2, 9, SEAL, 2), row(1, FIELD, 3));
        due(17, "SHADOWED in the REVISION of the SEAL", x.judge(2, 0), 1);
    }

    private static void judgeAgainstSeal() {
        SealedFile x = fileOf(row(1, NOTE, 1, 8, SEAL, 2), row(1, GONE, 0, 9, SEAL, 2), row(1, NOTE, 1));
        due(17, "THERE behind the first SEAL", x.judge(1, 2), 2);
        due(17, "not THERE behind the second SEAL", x.judge(3, 0), 2);
        x = fileOf(row(8, SEAL, 2), row(2, FIELD, 1, 3, LIST, 0), row(9, SEAL, 2), row(3, LIST, 4));
        due(17, "names one not THERE behind the first", x.change(0, 3, 2), 2);
        due(17, "names one THERE behind the second", x.change(3, 0, 2), 3);
    }

    private static void change() {
        SealedFile x = fileOf(row(1, FIELD, 1, 9, SEAL, 2), row(5, PAGE, 1, 4, NOTE, 1, 1, FIELD, 2), row(0, SEAL, 1, 4, NOTE, 1));
        int[][] want = {{1, 1, 1}, {1, 4, 2}, {1, 5, 3}, {2, 0, 1}, {NONE, NONE, NONE}};
        for (int i = 0; i < want.length; i++) {
            for (int what = 0; what < 3; what++) {
                due(18, "change(1, " + i + ", " + what + ")", x.change(1, i, what), want[i][what]);
            }
        }
        due(18, "99", x.change(1, 99, 0), NONE);
        due(18, "100", x.change(1, 100, 0), BAD);
        due(18, "-1", x.change(1, -1, 0), BAD);
        due(18, "what 3, no such CHANGE", x.change(1, 99, 3), BAD);
        due(18, "what -1", x.change(1, 0, -1), BAD);
        due(18, "no such WRITE", x.change(7, 0, 0), BAD);
        due(18, "no SEAL", x.change(0, 0, 0), NOT);
        due(18, "no SEAL, BAD ahead of NOT", x.change(0, 100, 0), BAD);
        due(18, "open", x.change(5, 0, 0), NOT);
        x.close();
        due(18, "the last SEAL has none", x.change(5, 0, 0), NONE);
    }

    private static void allowed() {
        SealedFile x = fileOf(row(0, SEAL, 2), row(1, SEAL, 1, 2, SEAL, 2), row(1, GONE, 0), row(3, SEAL, 0));
        int[] want = {3, 2, 1, 1};
        for (int r = 0; r < 4; r++) {
            due(19, "allowed(" + r + ")", x.allowed(r), want[r]);
        }
        due(19, "revision 4", x.allowed(4), BAD);
        due(19, "revision -1", x.allowed(-1), BAD);
        x.close();
        due(19, "behind a SEAL of LEVEL 0", x.allowed(4), 0);
        x.alter(4, 2);
        x.alter(1, 2);
        due(19, "altered", x.allowed(4), 2);
    }

    private static void first() {
        SealedFile x = fileOf(row(1, FIELD, 1, 8, SEAL, 1, 9, SEAL, 0), row(1, FIELD, 2), row(3, NOTE, 1, 2, PAGE, 1));
        due(20, "REVISION", x.first(0), 1);
        due(20, "THING", x.first(1), 1);
        due(20, "SEAL: not the one that allows it", x.first(2), 2);
        x.alter(2, 1);
        due(20, "REVISION", x.first(0), 2);
        due(20, "the least THING", x.first(1), 2);
        due(20, "the first SEAL", x.first(2), 1);
        x.undo();
        due(20, "THING", x.first(1), 3);
        x.alter(1, 2);
        due(20, "SEAL", x.first(2), 2);
        x.alter(2, 2);
        for (int what = 0; what < 3; what++) {
            due(20, "none", x.first(what), NONE);
        }
        x = fileOf(row(9, SEAL, 0), row(9, SEAL, 1));
        due(20, "WRITE 0", x.first(2), 0);
        due(20, "its own THING", x.first(1), 9);
        x.undo();
        due(20, "none any more", x.first(0), NONE);
        x = fileOf(row(1, PAGE, 1), row(9, SEAL, 0, 2, PAGE, 1), row());
        due(20, "none in the REVISION of the SEAL", x.first(0), NONE);
        x = fileOf(row(1, PAGE, 1), row(2, PAGE, 1), row(3, PAGE, 1, 9, SEAL, 0));
        due(20, "no CLOSED SEAL", x.first(0), NONE);
        due(20, "what 3", x.first(3), BAD);
        due(20, "what -1", x.first(-1), BAD);
    }

    private static void holding() {
        SealedFile x = fileOf(row(1, FIELD, 1, 8, SEAL, 1, 9, SEAL, 0), row(7, SEAL, 0));
        due(21, "SEALS", x.holding(1), 2);
        due(21, "a SEAL that came, LEVELS 1 and 0", x.holding(0), 1);
        x.close();
        due(21, "SEALS", x.holding(1), 3);
        due(21, "HOLDING", x.holding(0), 2);
        x.alter(0, 2);
        due(21, "all have FLAWS", x.holding(0), 0);
        due(21, "SEALS", x.holding(1), 3);
        x = fileOf(row(9, SEAL, 0), row());
        due(21, "WRITE 0 HOLDS", x.holding(0), 1);
        due(21, "WRITE 0 is a SEAL", x.holding(1), 1);
        x = fileOf(row(1, PAGE, 1, 9, SEAL, 0));
        x.undo();
        x.close();
        due(21, "an undone SEAL does not HOLD", x.holding(0), 0);
        due(21, "an undone SEAL is none", x.holding(1), 0);
        due(21, "what 2", x.holding(2), BAD);
        due(21, "what -1", x.holding(-1), BAD);
    }

    private static void better() {
        SealedFile x = new SealedFile();
        due(22, "no WRITES", x.better(0), NONE);
        due(22, "no WRITES", x.better(1), NONE);
        due(22, "what 2", x.better(2), BAD);
        due(22, "what -1", x.better(-1), BAD);
        x = fileOf(row(1, FIELD, 1));
        due(22, "no SEALS: the least", x.better(0), 0);
        due(22, "no SEALS: none HOLD", x.better(1), 0);
        x = fileOf(row(9, SEAL, 2), row(1, PAGE, 1), row(2, NOTE, 1));
        due(22, "the one that tampers", x.better(0), 1);
        due(22, "HOLD then", x.better(1), 1);
        due(22, "it is still told", x.thing(1, 1, 0), PAGE);
        due(22, "and still tampers", x.judge(0, 0), 3);
        x = fileOf(row(9, SEAL, 2), row(1, NOTE, 1));
        due(22, "a SEAL does not count then: not the SEAL", x.better(0), 1);
        due(22, "a SEAL does not count then", x.better(1), 1);
        x = fileOf(row(9, SEAL, 2), row());
        due(22, "the SEAL alone", x.better(0), 0);
        due(22, "the SEAL alone", x.better(1), 0);
        x = fileOf(row(9, SEAL, 2), row(1, NOTE, 1, 1, NOTE, 2));
        due(22, "SHADOWED no more", x.better(0), 1);
        due(22, "SHADOWED no more", x.better(1), 1);
        x = fileOf(row(1, PAGE, 1, 9, SEAL, 0, 8, SEAL, 0), row(1, PAGE, 1));
        x.alter(0, 2);
        x.alter(3, 2);
        due(22, "FLAWS stay", x.better(1), 0);
        due(22, "FLAWS stay", x.better(0), 0);
        x = fileOf(row(2, NOTE, 5, 9, SEAL, 2), row(2, NOTE, 6));
        due(22, "not THERE behind the SEAL then", x.better(0), 0);
        due(22, "not THERE behind the SEAL then", x.better(1), 1);
        x = fileOf(row(9, SEAL, 2), row(1, PAGE, 1, 2, PAGE, 1));
        due(22, "one is not enough", x.better(0), 0);
        due(22, "one is not enough", x.better(1), 0);
        x = fileOf(row(1, FIELD, 1, 9, SEAL, 1), row(8, SEAL, 0), row(1, FIELD, 2, 2, NOTE, 1));
        due(22, "the one by which the lower LEVEL stays broken", x.better(0), 4);
        due(22, "one of two HOLDS", x.better(1), 1);
        x = fileOf(row(1, FIELD, 1, 9, SEAL, 1), row(8, SEAL, 0), row(1, FIELD, 2));
        due(22, "both HOLD", x.better(0), 3);
        due(22, "both HOLD", x.better(1), 2);
    }

    private static void sheet() {
        SealedFile x = new SealedFile();
        due(23, "no items", x.sheet(0, 0, 0), 0);
        due(23, "60", x.sheet(3, 2, 60), 60);
        due(23, "61", x.sheet(3, 2, 61), BAD);
        due(23, "-1", x.sheet(3, 2, -1), SIZE);
        due(23, "the FINDING", x.count(8), 5);
        due(23, "the least int", x.sheet(3, 2, LEAST), SIZE);
        due(23, "sheet 4, BAD ahead of SIZE", x.sheet(4, 0, -1), BAD);
        due(23, "sheet -1", x.sheet(-1, 0, 1), BAD);
        due(23, "form 3, BAD ahead of SIZE", x.sheet(0, 3, -1), BAD);
        due(23, "form -1", x.sheet(0, -1, 1), BAD);
        due(23, "nothing changed", x.get(3, 2, 59), 0);
        x.lay(3, 2, 5, 77);
        due(23, "anew", x.sheet(3, 2, 10), 10);
        due(23, "0 at first", x.get(3, 2, 5), 0);
        due(23, "fewer", x.get(3, 2, 10), LEAST);
    }

    private static void lose() {
        SealedFile x = new SealedFile();
        due(24, "LOST", x.lose(0), NULL);
        due(24, "the FINDING", x.count(8), 1);
        x.sheet(0, 1, 7);
        x.sheet(1, 1, 0);
        due(24, "seven", x.lose(0), 7);
        due(24, "LOST", x.lose(0), NULL);
        due(24, "none", x.lose(1), 0);
        due(24, "LOST", x.lose(1), NULL);
        due(24, "sheet 4", x.lose(4), BAD);
        due(24, "sheet -1", x.lose(-1), BAD);
    }

    private static void lay() {
        SealedFile x = new SealedFile();
        due(25, "LOST", x.lay(0, 0, 0, 0), NULL);
        x.sheet(0, 0, 2);
        x.sheet(1, 1, 2);
        x.sheet(2, 2, 2);
        int[] v = {127, 128, 255, 256, 32768, 65535, 65536, -129, LEAST};
        int[] bytes = {127, -128, -1, 0, 0, -1, 0, 127, 0};
        int[] shorts = {127, 128, 255, 256, -32768, -1, 0, -129, 0};
        for (int k = 0; k < v.length; k++) {
            due(25, "byte", x.lay(0, 0, 1, v[k]), 1);
            due(25, "byte of " + v[k], x.get(0, 0, 1), bytes[k]);
            due(25, "short", x.lay(1, 1, 1, v[k]), 1);
            due(25, "short of " + v[k], x.get(1, 1, 1), shorts[k]);
            due(25, "int", x.lay(2, 2, 1, v[k]), 1);
            due(25, "int of " + v[k], x.get(2, 2, 1), v[k]);
        }
        due(25, "INDEX 2", x.lay(0, 0, 2, 0), INDEX);
        due(25, "INDEX -1", x.lay(0, 0, -1, 0), INDEX);
        due(25, "CAST ahead of INDEX", x.lay(0, 1, 2, 0), CAST);
        due(25, "the FINDING", x.count(8), 3);
        due(25, "NULL ahead of CAST and INDEX", x.lay(3, 1, 99, 0), NULL);
        due(25, "form 3 ahead of NULL", x.lay(3, 3, 0, 0), BAD);
        due(25, "form -1", x.lay(0, -1, 0, 0), BAD);
        due(25, "sheet 4", x.lay(4, 0, 0, 0), BAD);
        due(25, "sheet -1", x.lay(-1, 0, 0, 0), BAD);
        due(25, "nothing changed", x.get(0, 0, 0), 0);
    }

    private static void get() {
        SealedFile x = new SealedFile();
        due(26, "form 3", x.get(0, 3, 0), LEAST);
        due(26, "sheet 4", x.get(4, 0, 0), LEAST);
        due(26, "sheet -1", x.get(-1, 0, 0), LEAST);
        due(26, "BAD tells no FINDING", x.count(8), 0);
        due(26, "NULL", x.get(0, 0, 99), LEAST);
        due(26, "NULL tells", x.count(8), 1);
        lay(x, 0, 1, 5, 6);
        due(26, "item 1", x.get(0, 1, 1), 6);
        due(26, "CAST", x.get(0, 2, 99), LEAST);
        due(26, "CAST tells", x.count(8), 3);
        due(26, "INDEX", x.get(0, 1, 2), LEAST);
        due(26, "INDEX tells", x.count(8), 2);
        due(26, "-1", x.get(0, 1, -1), LEAST);
        due(26, "an answer changes no FINDING", x.get(0, 1, 0), 5);
        due(26, "the latest", x.count(8), 2);
    }

    private static void copy() {
        SealedFile x = new SealedFile();
        lay(x, 0, 2, 1, 2, 3, 4, 5);
        lay(x, 1, 2, 9, 9, 9);
        due(27, "to another", x.copy(0, 2, 1, 0, 3), 1);
        for (int i = 0; i < 3; i++) {
            due(27, "item " + i, x.get(1, 2, i), 3 + i);
        }
        due(27, "onwards in itself", x.copy(0, 0, 0, 1, 4), 1);
        int[] on = {1, 1, 2, 3, 4};
        for (int i = 0; i < 5; i++) {
            due(27, "onwards " + i, x.get(0, 2, i), on[i]);
        }
        due(27, "back in itself", x.copy(0, 1, 0, 0, 4), 1);
        int[] back = {1, 2, 3, 4, 4};
        for (int i = 0; i < 5; i++) {
            due(27, "back " + i, x.get(0, 2, i), back[i]);
        }
        due(27, "none, at the ends", x.copy(0, 5, 1, 3, 0), 1);
        due(27, "none, behind the end", x.copy(0, 6, 1, 3, 0), INDEX);
        due(27, "one too many of s", x.copy(0, 5, 1, 0, 1), INDEX);
        due(27, "one too many of t", x.copy(0, 0, 1, 1, 3), INDEX);
        due(27, "i below 0", x.copy(0, -1, 1, 0, 1), INDEX);
        due(27, "j below 0", x.copy(0, 0, 1, -1, 1), INDEX);
        due(27, "n below 0", x.copy(0, 0, 1, 0, -1), INDEX);
        due(27, "sums that would wrap", x.copy(0, 1, 1, 1, Integer.MAX_VALUE), INDEX);
        due(27, "sums that would wrap", x.copy(0, Integer.MAX_VALUE, 1, 0, 1), INDEX);
        due(27, "the FINDING", x.count(8), 2);
        x.sheet(2, 1, 3);
        due(27, "STORE ahead of INDEX", x.copy(0, -1, 2, 0, 1), STORE);
        due(27, "STORE of none", x.copy(0, 0, 2, 0, 0), STORE);
        due(27, "the FINDING", x.count(8), 4);
        due(27, "s LOST, ahead of STORE", x.copy(3, 0, 2, 0, 1), NULL);
        due(27, "t LOST", x.copy(0, 0, 3, 0, 1), NULL);
        due(27, "s 4, ahead of NULL", x.copy(4, 0, 3, 0, 1), BAD);
        due(27, "t 4, ahead of NULL", x.copy(3, 0, 4, 0, 1), BAD);
        due(27, "s -1", x.copy(-1, 0, 0, 0, 1), BAD);
        due(27, "t -1", x.copy(0, 0, -1, 0, 1), BAD);
        due(27, "nothing changed", x.get(1, 2, 1), 4);
    }

    private static void tell() {
        SealedFile x = fileOf(row(15, GONE, 65535), row(1, LIST, 258), row());
        due(28, "LOST", x.tell(0, 0), NULL);
        due(28, "the FINDING", x.count(8), 1);
        lay(x, 0, 0, 1, 1, 1, 1, 1, 1);
        lay(x, 1, 2, 1, 1, 1, 1, 1, 1);
        due(28, "as many as items", x.tell(1, 0), 6);
        int[] bytes = {15, 5, -1, -1, 0, 0};
        due(28, "as ints", x.tell(1, 1), 6);
        int[] ints = {15, 5, 255, 255, 0, 0};
        for (int i = 0; i < 6; i++) {
            due(28, "byte " + i, x.get(0, 0, i), bytes[i]);
            due(28, "int " + i, x.get(1, 2, i), ints[i]);
        }
        due(28, "as many as BYTES", x.tell(12, 1), 2);
        int[] rest = {0, 1, 255, 255, 0, 0};
        for (int i = 0; i < 6; i++) {
            due(28, "the others stay " + i, x.get(1, 2, i), rest[i]);
        }
        due(28, "behind all", x.tell(14, 1), 0);
        due(28, "400", x.tell(400, 1), 0);
        due(28, "401", x.tell(401, 1), BAD);
        due(28, "-1", x.tell(-1, 1), BAD);
        due(28, "-1, ahead of NULL", x.tell(-1, 3), BAD);
        due(28, "sheet 4", x.tell(0, 4), BAD);
        due(28, "sheet -1", x.tell(0, -1), BAD);
        x.sheet(2, 0, 0);
        due(28, "no items", x.tell(0, 2), 0);
    }

    private static void count() {
        SealedFile x = fileOf(row(1, FIELD, 1, 9, SEAL, 1), row(2, NOTE, 1, 2, NOTE, 2, 8, SEAL, 2),
            row(1, FIELD, 2, 1, FIELD, 3, 2, GONE, 0));
        int[] want = {8, 2, 44, 2, 0, 3, 2, 1, 0};
        for (int what = 0; what <= 8; what++) {
            due(29, "count(" + what + ")", x.count(what), want[what]);
        }
        x.undo();
        x.undo();
        due(29, "HOLD", x.count(4), 1);
        due(29, "WRITE 0 HOLDS", fileOf(row(9, SEAL, 0), row()).count(4), 1);
        due(29, "SHADOWED in REVISION 0", fileOf(row(9, NOTE, 0, 9, NOTE, 1), row()).count(6), 1);
        due(29, "THERE", x.count(5), 4);
        due(29, "SHADOWED", x.count(6), 1);
        x.lose(0);
        x.sheet(0, 0, -1);
        due(29, "the latest FINDING", x.count(8), 5);
        x.put(16, 0, 0);
        due(29, "a refusal that is none", x.count(8), 5);
        due(29, "what 9", x.count(9), BAD);
        due(29, "what -1", x.count(-1), BAD);
    }

    private static long digestOf(SealedFile x) {
        long h = 17;
        for (int what = 0; what <= 7; what++) h = 31 * h + x.count(what);
        for (int r = 0; r <= 7; r++) {
            for (int what = 0; what <= 3; what++) h = 31 * h + x.revision(r, what);
            h = 31 * h + x.shadows(r);
            h = 31 * h + x.allowed(r);
        }
        for (int t = 0; t <= 15; t++) {
            h = 31 * h + x.thing(t, 0, 0);
            h = 31 * h + x.thing(t, 2, 1);
            for (int what = 0; what <= 2; what++) h = 31 * h + x.thing(t, x.count(1), what);
        }
        for (int w = 0; w < x.count(0); w++) {
            for (int what = 0; what <= 4; what++) h = 31 * h + x.write(w, what);
            for (int what = 0; what <= 3; what++) h = 31 * h + x.covers(w, what);
            h = 31 * h + x.covered(w);
            h = 31 * h + x.number(w, 0);
            h = 31 * h + x.number(w, 1);
            h = 31 * h + x.flaws(w);
            for (int what = 0; what <= 3; what++) h = 31 * h + x.judge(w, what);
            for (int i = 0; i <= 4; i++) {
                for (int what = 0; what <= 2; what++) h = 31 * h + x.change(w, i, what);
            }
        }
        for (int i = 0; i <= 30; i++) h = 31 * h + x.bytes(i);
        h = 31 * h + x.bytes(NONE);
        for (int what = 0; what <= 2; what++) h = 31 * h + x.first(what);
        h = 31 * h + x.holding(0);
        h = 31 * h + x.holding(1);
        h = 31 * h + x.better(0);
        return 31 * h + x.better(1);
    }

    private static void digest() {
        SealedFile x = new SealedFile();
        due(30, "of a new object", x.digest(), digestOf(x));
        x = fileOf(row(1, FIELD, 1, 9, SEAL, 1), row(2, NOTE, 1, 2, NOTE, 2, 8, SEAL, 2), row(1, FIELD, 2));
        long is = x.digest();
        due(30, "of three REVISIONS", is, digestOf(x));
        x.lose(0);
        x.sheet(0, 0, 5);
        due(30, "neither FINDINGS nor SHEETS", x.digest(), is);
        due(30, "it finds nothing itself", x.count(8), 1);
        x.alter(0, 2);
        due(30, "altered", x.digest() == is ? 1 : 0, 0);
        x.alter(0, 1);
        due(30, "altered back", x.digest(), is);
        // anew: an object is asked 512 times at most
        x = fileOf(row(1, FIELD, 1, 9, SEAL, 1), row(2, NOTE, 1, 2, NOTE, 2, 8, SEAL, 2), row(1, FIELD, 2));
        x.alter(0, 2);
        due(30, "altered", x.digest(), digestOf(x));
        x = fileOf(row(1, FIELD, 1, 9, SEAL, 1), row(8, SEAL, 0), row(1, FIELD, 2));
        due(30, "better 3 of 2", x.digest(), digestOf(x));
    }

    public static void main(String[] args) {
        EdgeCase.watch();
        newObject();
        put();
        close();
        undo();
        cover();
        alter();
        read();
        write();
        revision();
        bytes();
        thing();
        shadows();
        covers();
        covered();
        number();
        flaws();
        judge();
        change();
        allowed();
        first();
        holding();
        better();
        sheet();
        lose();
        lay();
        get();
        copy();
        tell();
        count();
        digest();
        System.out.println(wrong == 0 ? "all answers are as due" : wrong + " answers are not as due");
        if (wrong != 0) {
            System.exit(1);
        }
    }
}
