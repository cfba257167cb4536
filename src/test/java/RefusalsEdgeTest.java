import java.util.Arrays;

/**
 * "Refusals, the first that fits, in the order told at each act .. They change
 * nothing (FINDINGS but count() 8)." Each refused call is made on an object
 * whose twin, made by the same calls, does not get it; then all that can be
 * asked of both must be alike.
 */
public final class RefusalsEdgeTest extends EdgeCase {
    private static final int SAME = 0;

    /** A call to be refused. */
    private interface Call {
        int on(SealedFile x);
    }

    /** A state, told by the calls that lead to it. */
    private interface State {
        SealedFile made();
    }

    public static void main(String[] args) throws IllegalAccessException {
        runAll(RefusalsEdgeTest.class);
    }

    // ---- states

    private static SealedFile withSheets(SealedFile x) {
        lay(x, 0, BYTES, 1, -2);
        lay(x, 1, SHORTS, 3, FIELD, 500);
        lay(x, 2, INTS, 6, FIELD, 65536);
        return x;
    }

    private static SealedFile empty() {
        return withSheets(new SealedFile());
    }

    /** WRITE 0 is no SEAL, 1 a CLOSED SEAL, 2 no SEAL, 3 an open SEAL of which something is told. */
    private static SealedFile some() {
        SealedFile x = withSheets(fileOf(row(1, FIELD, 1, 8, SEAL, 1), row(2, NOTE, 1, 9, SEAL, 2)));
        due("cover", x.cover(3, 1, 2, 3, 4), 1);
        return x;
    }

    private static SealedFile full() {
        SealedFile x = fileOf(row(1, FIELD, 1, 8, SEAL, 1), row());
        closeUpTo(x, 7);
        fillUpTo(x, 40);
        return withSheets(x);
    }

    private static SealedFile emptyEighth() {
        SealedFile x = new SealedFile();
        closeUpTo(x, 7);
        return withSheets(x);
    }

    private static SealedFile eighth() {
        SealedFile x = emptyEighth();
        x.put(3, LIST, 5);
        return x;
    }

    // ---- what can be asked

    private static long[] allOf(SealedFile x) {
        long[] all = new long[400];
        int n = 0;
        all[n++] = x.count(8);
        all[n++] = x.digest();
        int bytes = x.bytes(NONE);
        for (int i = 0; i < bytes; i++) {
            all[n++] = x.bytes(i);
        }
        for (int s = 0; s <= 3; s++) {
            for (int form = 0; form <= 2; form++) {
                for (int i = 0; i <= 3; i++) {
                    int item = x.get(s, form, i);
                    all[n++] = item;
                    // no item is the least int, so there is a FINDING of its own
                    all[n++] = item == LEAST ? x.count(8) : 0;
                }
            }
        }
        return Arrays.copyOf(all, n);
    }

    /** The call is refused as told, and the object is as its twin, but for the FINDING. */
    private static void refused(State state, String name, Call call, int want) {
        SealedFile x = state.made(), twin = state.made();
        due(name, call.on(x), want);
        long[] is = allOf(x), was = allOf(twin);
        if (want <= NULL && want >= SIZE) {
            due(name + ", the FINDING", is[0], -10 - want);
            was[0] = is[0];
        }
        due(name + " changes nothing", Arrays.equals(is, was) ? SAME : 1, SAME);
    }

    static void refusalsHaveTheirNumbers() {
        says("BAD -2 (a number not as told, no such thing), NULL, NOT -3 (as told), FULL -4, other FINDINGS.");
        due("NONE", SealedFile.NONE, -1);
        due("BAD", SealedFile.BAD, -2);
        due("NOT", SealedFile.NOT, -3);
        due("FULL", SealedFile.FULL, -4);
        due("a number not as told", some().put(0, PAGE, 65536), -2);
        due("no such thing", some().write(4, 0), -2);
        due("NULL", some().lose(3), -11);
        due("NOT", some().flaws(0), -3);
        due("FULL", full().put(0, PAGE, 0), -4);
        due("other FINDINGS", some().sheet(0, BYTES, -1), -15);
    }

    // ---- each act

    static void putRefuses() {
        says("A WRITE more, in the open REVISION: how many. BAD; FULL.");
        for (State s : new State[] {RefusalsEdgeTest::empty, RefusalsEdgeTest::some, RefusalsEdgeTest::full}) {
            refused(s, "put THING -1", x -> x.put(-1, PAGE, 0), BAD);
            refused(s, "put THING 16", x -> x.put(16, PAGE, 0), BAD);
            refused(s, "put KIND -1", x -> x.put(0, -1, 0), BAD);
            refused(s, "put KIND 6", x -> x.put(0, 6, 0), BAD);
            refused(s, "put VALUE -1", x -> x.put(0, PAGE, -1), BAD);
            refused(s, "put VALUE 65536", x -> x.put(0, PAGE, 65536), BAD);
            refused(s, "put LEVEL 3", x -> x.put(0, SEAL, 3), BAD);
            refused(s, "put LEVEL -1", x -> x.put(0, SEAL, -1), BAD);
        }
        refused(RefusalsEdgeTest::full, "put the 41st", x -> x.put(0, PAGE, 0), FULL);
        refused(RefusalsEdgeTest::full, "put the 41st, a SEAL", x -> x.put(0, SEAL, 0), FULL);
    }

    static void closeRefuses() {
        says("NOT: it has no WRITES; FULL: it is the eighth.");
        refused(RefusalsEdgeTest::empty, "close without WRITES", SealedFile::close, NOT);
        refused(RefusalsEdgeTest::emptyEighth, "close the eighth without WRITES", SealedFile::close, NOT);
        refused(RefusalsEdgeTest::eighth, "close the eighth", SealedFile::close, FULL);
        refused(RefusalsEdgeTest::full, "close the eighth, 40 WRITES", SealedFile::close, FULL);
    }

    static void undoRefuses() {
        says("NOT: the open REVISION has none.");
        refused(RefusalsEdgeTest::empty, "undo without WRITES", SealedFile::undo, NOT);
        refused(RefusalsEdgeTest::emptyEighth, "undo in an empty REVISION", SealedFile::undo, NOT);
    }

    static void coverRefuses() {
        says("BAD: WRITE, numbers; NOT: it is no SEAL, or its REVISION is CLOSED.");
        State s = RefusalsEdgeTest::some;
        for (int w = 0; w <= 3; w++) {
            int write = w;
            refused(s, "cover A -1", x -> x.cover(write, -1, 0, 0, 0), BAD);
            refused(s, "cover B less", x -> x.cover(write, 6, 5, 7, 8), BAD);
            refused(s, "cover C less", x -> x.cover(write, 5, 7, 6, 8), BAD);
            refused(s, "cover D less", x -> x.cover(write, 5, 6, 8, 7), BAD);
            refused(s, "cover D 401", x -> x.cover(write, 5, 6, 7, 401), BAD);
        }
        refused(s, "cover WRITE -1", x -> x.cover(-1, 5, 6, 7, 8), BAD);
        refused(s, "cover WRITE 4", x -> x.cover(4, 5, 6, 7, 8), BAD);
        refused(s, "cover no SEAL, CLOSED", x -> x.cover(0, 5, 6, 7, 8), NOT);
        refused(s, "cover a SEAL, CLOSED", x -> x.cover(1, 5, 6, 7, 8), NOT);
        refused(s, "cover no SEAL, open", x -> x.cover(2, 5, 6, 7, 8), NOT);
        refused(RefusalsEdgeTest::empty, "cover without WRITES", x -> x.cover(0, 0, 0, 0, 0), BAD);
        refused(RefusalsEdgeTest::full, "cover WRITE 40", x -> x.cover(40, 0, 0, 0, 0), BAD);
    }

    static void alterRefuses() {
        says("what it was. BAD.");
        State s = RefusalsEdgeTest::some;
        refused(s, "alter WRITE -1", x -> x.alter(-1, 1), BAD);
        refused(s, "alter WRITE 4", x -> x.alter(4, 1), BAD);
        refused(s, "alter to -1", x -> x.alter(0, -1), BAD);
        refused(s, "alter to 65536", x -> x.alter(0, 65536), BAD);
        refused(s, "alter a SEAL to 3", x -> x.alter(1, 3), BAD);
        refused(s, "alter an open SEAL to 3", x -> x.alter(3, 3), BAD);
        refused(s, "alter a SEAL to -1", x -> x.alter(1, -1), BAD);
        refused(RefusalsEdgeTest::empty, "alter without WRITES", x -> x.alter(0, 0), BAD);
        refused(RefusalsEdgeTest::full, "alter WRITE 40", x -> x.alter(40, 0), BAD);
    }

    static void readRefuses() {
        says("as long as each may be: how many. BAD; NULL.");
        for (State s : new State[] {RefusalsEdgeTest::empty, RefusalsEdgeTest::some, RefusalsEdgeTest::full}) {
            refused(s, "read SHEET -1", x -> x.read(-1), BAD);
            refused(s, "read SHEET 4", x -> x.read(4), BAD);
            refused(s, "read a LOST one", x -> x.read(3), NULL);
            refused(s, "read too few items", x -> x.read(0), 0);
            refused(s, "read a VALUE that may not be", x -> x.read(2), 0);
        }
    }

    static void whatIsAskedChangesNothing() {
        says("They change nothing");
        State s = RefusalsEdgeTest::some;
        for (int w : row(-1, 4, LEAST, MOST)) {
            refused(s, "write", x -> x.write(w, 0), BAD);
            refused(s, "revision", x -> x.revision(w, 0), BAD);
            refused(s, "covers", x -> x.covers(w, 0), BAD);
            refused(s, "covered", x -> x.covered(w), BAD);
            refused(s, "number", x -> x.number(w, 0), LEAST);
            refused(s, "flaws", x -> x.flaws(w), BAD);
            refused(s, "judge", x -> x.judge(w, 0), BAD);
            refused(s, "change", x -> x.change(w, 0, 0), BAD);
            refused(s, "shadows", x -> x.shadows(w), BAD);
            refused(s, "allowed", x -> x.allowed(w), BAD);
            refused(s, "thing behind", x -> x.thing(0, w, 0), BAD);
            refused(s, "first", x -> x.first(w), BAD);
            refused(s, "holding", x -> x.holding(w), BAD);
            refused(s, "better", x -> x.better(w), BAD);
        }
        refused(s, "thing", x -> x.thing(16, 0, 0), BAD);
        refused(s, "bytes", x -> x.bytes(-2), BAD);
        refused(s, "count", x -> x.count(9), BAD);
        refused(s, "covers of no SEAL", x -> x.covers(0, 0), NOT);
        refused(s, "covered of no SEAL", x -> x.covered(2), NOT);
        refused(s, "number of an open one", x -> x.number(3, 1), LEAST);
        refused(s, "flaws of an open one", x -> x.flaws(3), NOT);
        refused(s, "judge of no SEAL", x -> x.judge(0, 3), NOT);
        refused(s, "change of no SEAL", x -> x.change(2, 0, 0), NOT);
    }

    static void sheetRefuses() {
        says("BAD: SHEET, FORM, above 60; SIZE.");
        State s = RefusalsEdgeTest::some;
        for (int form = 0; form <= 2; form++) {
            int f = form;
            refused(s, "sheet -1", x -> x.sheet(-1, f, -1), BAD);
            refused(s, "sheet 4", x -> x.sheet(4, f, -1), BAD);
            refused(s, "sheet of 61", x -> x.sheet(1, f, 61), BAD);
            refused(s, "sheet of -1", x -> x.sheet(1, f, -1), SIZE);
            refused(s, "a LOST sheet of -1", x -> x.sheet(3, f, -1), SIZE);
            refused(s, "a LOST sheet of 61", x -> x.sheet(3, f, 61), BAD);
        }
        refused(s, "sheet of FORM -1", x -> x.sheet(1, -1, -1), BAD);
        refused(s, "sheet of FORM 3", x -> x.sheet(1, 3, -1), BAD);
        refused(s, "sheet of FORM 3", x -> x.sheet(1, 3, 1), BAD);
    }

    static void loseRefuses() {
        says("how many items it had. BAD; NULL.");
        refused(RefusalsEdgeTest::some, "lose -1", x -> x.lose(-1), BAD);
        refused(RefusalsEdgeTest::some, "lose 4", x -> x.lose(4), BAD);
        refused(RefusalsEdgeTest::some, "lose a LOST one", x -> x.lose(3), NULL);
    }

    static void layRefuses() {
        says("(the lowest bits that it has): 1. BAD; NULL; CAST; INDEX.");
        State s = RefusalsEdgeTest::some;
        refused(s, "SHEET 4", x -> x.lay(4, BYTES, 9, 9), BAD);
        refused(s, "SHEET -1", x -> x.lay(-1, BYTES, 9, 9), BAD);
        refused(s, "LOST, FORM 3", x -> x.lay(3, 3, 9, 9), BAD);
        refused(s, "FORM -1", x -> x.lay(0, -1, 0, 9), BAD);
        refused(s, "LOST, no such item", x -> x.lay(3, BYTES, 9, 9), NULL);
        refused(s, "another FORM, no such item", x -> x.lay(0, INTS, 9, 9), CAST);
        refused(s, "another FORM", x -> x.lay(1, BYTES, 0, 9), CAST);
        refused(s, "behind the last", x -> x.lay(1, SHORTS, 3, 9), INDEX);
        refused(s, "below 0", x -> x.lay(2, INTS, -1, 9), INDEX);
    }

    static void getRefuses() {
        says("BAD: the least int; so are NULL, CAST, INDEX (count() 8 tells).");
        State s = RefusalsEdgeTest::some;
        refused(s, "SHEET 4", x -> x.get(4, BYTES, 9), LEAST);
        refused(s, "SHEET -1", x -> x.get(-1, BYTES, 9), LEAST);
        refused(s, "LOST, FORM 3", x -> x.get(3, 3, 9), LEAST);
        refused(s, "LOST, no such item", x -> x.get(3, BYTES, 9) == LEAST ? -10 - x.count(8) : 0, NULL);
        refused(s, "another FORM, no such item", x -> x.get(0, INTS, 9) == LEAST ? -10 - x.count(8) : 0, CAST);
        refused(s, "behind the last", x -> x.get(1, SHORTS, 3) == LEAST ? -10 - x.count(8) : 0, INDEX);
        refused(s, "below 0", x -> x.get(1, SHORTS, -1) == LEAST ? -10 - x.count(8) : 0, INDEX);
    }

    static void copyRefuses() {
        says("BAD: the SHEETS; NULL: s, t; STORE; INDEX: below 0, not so many.");
        State s = RefusalsEdgeTest::some;
        refused(s, "from SHEET 4 to a LOST one", x -> x.copy(4, -1, 3, -1, -1), BAD);
        refused(s, "from a LOST one to SHEET -1", x -> x.copy(3, -1, -1, -1, -1), BAD);
        refused(s, "from a LOST one, no such item", x -> x.copy(3, -1, 0, 0, 1), NULL);
        refused(s, "to a LOST one, no such item", x -> x.copy(0, 0, 3, 99, 1), NULL);
        refused(s, "unlike FORMS, no such item", x -> x.copy(0, 9, 1, 9, 1), STORE);
        refused(s, "unlike FORMS", x -> x.copy(2, 0, 1, 0, 1), STORE);
        refused(s, "one too many", x -> x.copy(1, 1, 1, 0, 3), INDEX);
        refused(s, "one too many, at t", x -> x.copy(1, 0, 1, 1, 3), INDEX);
        refused(s, "i below 0", x -> x.copy(2, -1, 2, 0, 2), INDEX);
        refused(s, "j below 0", x -> x.copy(2, 0, 2, -1, 2), INDEX);
        refused(s, "n below 0", x -> x.copy(2, 2, 2, 1, -1), INDEX);
    }

    static void tellRefuses() {
        says("as many as there are items, and BYTES: how many. BAD; NULL.");
        State s = RefusalsEdgeTest::some;
        refused(s, "from -1, LOST", x -> x.tell(-1, 3), BAD);
        refused(s, "from 401, LOST", x -> x.tell(401, 3), BAD);
        refused(s, "from -1", x -> x.tell(-1, 0), BAD);
        refused(s, "from 401", x -> x.tell(401, 0), BAD);
        refused(s, "SHEET -1", x -> x.tell(0, -1), BAD);
        refused(s, "SHEET 4", x -> x.tell(0, 4), BAD);
        refused(s, "LOST", x -> x.tell(0, 3), NULL);
        refused(s, "LOST, from 400", x -> x.tell(400, 3), NULL);
    }

    /** Where nothing is refused the twins differ, so that being alike says something. */
    static void theOtherSideDoesChangeSomething() {
        says("They change nothing (FINDINGS but count() 8)");
        State s = RefusalsEdgeTest::some;
        Call[] calls = {x -> x.put(15, GONE, 65535), SealedFile::close, SealedFile::undo, x -> x.cover(3, 1, 2, 3, 5),
            x -> x.alter(0, 2), x -> x.alter(1, 2), x -> x.read(1), x -> x.sheet(0, BYTES, 1), x -> x.sheet(3, BYTES, 0), x -> x.lose(0),
            x -> x.lay(0, BYTES, 0, 9), x -> x.copy(1, 0, 1, 1, 2), x -> x.tell(0, 1)};
        for (int k = 0; k < calls.length; k++) {
            SealedFile x = s.made();
            due("call " + k + " is not refused", calls[k].on(x) >= 0 ? 1 : 0, 1);
            due("call " + k + " changes something", Arrays.equals(allOf(x), allOf(s.made())) ? SAME : 1, 1);
        }
    }
}
