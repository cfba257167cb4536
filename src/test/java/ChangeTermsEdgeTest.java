/** The boundary cases of "Terms" from CHANGE on: sorts, VERDICT, HOLDS, ALLOWED, FIRST, HOLDING, BETTER. */
public final class ChangeTermsEdgeTest extends EdgeCase {
    /** Beside the KINDS: there is no WRITE at all. */
    private static final int NEVER = -1;

    public static void main(String[] args) throws IllegalAccessException {
        runAll(ChangeTermsEdgeTest.class);
    }

    private static int[] with(int[] first, int... more) {
        int[] both = java.util.Arrays.copyOf(first, first.length + more.length);
        System.arraycopy(more, 0, both, first.length, more.length);
        return both;
    }

    // ---- CHANGE

    static void aChangeIsOfARevisionBehindThatOfTheSeal() {
        says("A CHANGE is of a REVISION behind that of a SEAL");
        SealedFile x = fileOf(row(1, PAGE, 1), row(1, PAGE, 2, 9, SEAL, 2, 3, PAGE, 3), row());
        due("none of the REVISION ahead, none of its own", x.judge(2, 1), 0);
        x.put(1, PAGE, 3);
        due("one of the next", x.judge(2, 1), 1);
        due("of the open one", x.change(2, 0, 0), 2);
        x.close();
        due("CLOSED, still one", x.judge(2, 1), 1);
        x.put(1, PAGE, 4);
        due("one more", x.judge(2, 1), 2);
        due("of the next", x.change(2, 1, 0), 3);
    }

    static void aChangeIsOfAThingThatIsNotAsItWas() {
        says("a THING that behind it is not as behind the REVISION ahead (not THERE, or of unlike KIND or VALUE)");
        int[][] changes = {
            // kind and value behind the REVISION ahead, kind and value behind this one, how many CHANGES
            {PAGE, 1, PAGE, 1, 0}, {PAGE, 1, PAGE, 2, 1}, {PAGE, 1, NOTE, 1, 1}, {PAGE, 1, GONE, 1, 1},
            {GONE, 1, PAGE, 1, 1}, {GONE, 1, GONE, 1, 0}, {GONE, 1, GONE, 2, 0}, {NEVER, 0, GONE, 1, 0},
            {NEVER, 0, PAGE, 0, 1}, {PAGE, 0, PAGE, 256, 1}, {PAGE, 65535, PAGE, 255, 1}, {PAGE, 5, NEVER, 0, 0}};
        for (int[] c : changes) {
            int[] ahead = c[0] == NEVER ? row(9, SEAL, 2) : row(9, SEAL, 2, 1, c[0], c[1]);
            int[] then = c[2] == NEVER ? row() : row(1, c[2], c[3]);
            SealedFile x = fileOf(ahead, then);
            due(c[0] + " " + c[1] + " to " + c[2] + " " + c[3], x.judge(0, 1), c[4]);
            due("its THING", x.change(0, 0, 1), c[4] == 1 ? 1 : NONE);
        }
    }

    static void aChangeIsFromTheRevisionAhead() {
        says("not as behind the REVISION ahead");
        SealedFile x = fileOf(row(1, FIELD, 1, 9, SEAL, 1), row(1, FIELD, 2), row(1, FIELD, 1));
        due("there, and back", x.judge(1, 1), 2);
        due("there", x.change(1, 0, 0), 1);
        due("back, as behind the SEAL", x.change(1, 1, 0), 2);
        x = fileOf(row(1, FIELD, 1, 9, SEAL, 1), row(2, FIELD, 2), row(1, FIELD, 2));
        due("a REVISION without it between", x.judge(1, 1), 2);
        due("from what it was then", x.change(1, 1, 2), 1);
    }

    static void aChangeIsByItsWrites() {
        says("not as behind the REVISION ahead (not THERE, or of unlike KIND or VALUE), by its WRITES");
        SealedFile x = fileOf(row(1, FIELD, 1, 9, SEAL, 0), row(2, FIELD, 2), row());
        due("none in the third without WRITES", x.judge(1, 1), 1);
        x.put(2, FIELD, 2);
        due("nor by one that is alike", x.judge(1, 1), 1);
        x.alter(0, 3);
        due("a WRITE altered behind the SEAL is no CHANGE", x.judge(1, 1), 1);
        x.alter(2, 3);
        due("one altered in the second is one of the third", x.judge(1, 1), 2);
        due("REVISION", x.change(1, 1, 0), 2);
        due("sort", x.change(1, 1, 2), 1);
    }

    // ---- sorts

    /** Of what sort a CHANGE of THING 5 is, VALUE 1 to 2; the first WRITE is behind the SEAL, or ahead of it. */
    private static int sortOf(int was, int is, int value, boolean firstIsBehindSeal) {
        int[] write = was == NEVER ? row() : row(5, was, 1);
        SealedFile x = firstIsBehindSeal
            ? fileOf(row(9, SEAL, 2), with(row(8, PAGE, 1), write), row(5, is, value))
            : fileOf(with(row(9, SEAL, 2), write), row(8, PAGE, 1), row(5, is, value));
        int last = x.judge(0, 1) - 1;
        return x.change(0, last, 1) == 5 && x.change(0, last, 0) == 2 ? x.change(0, last, 2) : 0;
    }

    static void everyPairOfKindsHasItsSort() {
        says("else TAMPERING (3)");
        int[] was = {NEVER, PAGE, FIELD, NOTE, LIST, SEAL, GONE};
        int[][] sorts = {
            // to PAGE, FIELD, NOTE, LIST, SEAL, GONE, of another VALUE
            {3, 3, 2, 3, 1, 0}, {3, 3, 3, 3, 3, 3}, {3, 1, 3, 3, 3, 3}, {3, 3, 3, 3, 3, 3},
            {3, 3, 3, 2, 3, 3}, {3, 3, 3, 3, 3, 3}, {3, 3, 2, 3, 1, 0}};
        for (int w = 0; w < was.length; w++) {
            for (int is = PAGE; is <= GONE; is++) {
                due(was[w] + " to " + is, sortOf(was[w], is, 2, false), sorts[w][is]);
                int alike = was[w] == is ? 0 : sorts[w][is];
                due(was[w] + " to " + is + ", VALUE alike", sortOf(was[w], is, 1, false), alike);
                boolean remark = was[w] == NOTE && (is == NOTE || is == GONE);
                due(was[w] + " to " + is + ", first behind the SEAL", sortOf(was[w], is, 2, true), remark ? 2 : sorts[w][is]);
            }
        }
    }

    static void aFillingIsOfAField() {
        says("It is a FILLING (1), if it was a FIELD and is one");
        due("FIELD to FIELD", sortOf(FIELD, FIELD, 2, false), 1);
        due("FIELD of VALUE 1 to VALUE 0", sortOf(FIELD, FIELD, 0, false), 1);
        due("FIELD of VALUE 1 to VALUE 65535", sortOf(FIELD, FIELD, 65535, false), 1);
        due("it was none", sortOf(NEVER, FIELD, 2, false), 3);
        due("it was a NOTE", sortOf(NOTE, FIELD, 2, false), 3);
        due("it is none", sortOf(FIELD, GONE, 2, false), 3);
        due("it is a PAGE", sortOf(FIELD, PAGE, 2, false), 3);
    }

    static void aFillingIsASealThatComes() {
        says("or was not THERE and is a SEAL");
        due("never THERE", sortOf(NEVER, SEAL, 0, false), 1);
        due("GONE", sortOf(GONE, SEAL, 0, false), 1);
        due("another SEAL", sortOf(SEAL, SEAL, 0, false), 3);
        due("a FIELD", sortOf(FIELD, SEAL, 0, false), 3);
        SealedFile x = fileOf(row(5, NOTE, 1, 9, SEAL, 1), row(5, GONE, 0), row(5, SEAL, 0));
        due("it was THERE behind the SEAL", x.change(1, 1, 2), 1);
        due("its going", x.change(1, 0, 2), 3);
    }

    static void aRemarkIsOfANoteNotThereBehindTheSeal() {
        says("a REMARK (2), if it was not THERE, or a NOTE, and is a NOTE, or not THERE, and was not THERE behind the REVISION of the SEAL");
        SealedFile x = fileOf(row(8, PAGE, 1), row(9, SEAL, 2), row(5, NOTE, 1), row(5, NOTE, 2), row(5, GONE, 0), row(5, NOTE, 3));
        for (int i = 0; i < 4; i++) {
            due("comes, changes, goes, comes: " + i, x.change(1, i, 2), 2);
            due("in REVISION", x.change(1, i, 0), 2 + i);
        }
        x = fileOf(row(8, PAGE, 1), row(5, NOTE, 1, 9, SEAL, 2), row(5, NOTE, 2), row(5, GONE, 0), row(5, NOTE, 3));
        for (int i = 0; i < 3; i++) {
            due("THERE in the REVISION of the SEAL: " + i, x.change(2, i, 2), 3);
        }
        x = fileOf(row(5, NOTE, 1), row(9, SEAL, 2), row(5, NOTE, 2));
        due("THERE since a REVISION ahead", x.change(1, 0, 2), 3);
        x = fileOf(row(5, NOTE, 1), row(5, GONE, 0, 9, SEAL, 2), row(5, NOTE, 2));
        due("GONE in the REVISION of the SEAL", x.change(2, 0, 2), 2);
        x = fileOf(row(5, NOTE, 1), row(9, SEAL, 2), row(5, GONE, 0), row(5, NOTE, 2));
        due("GONE one REVISION too late", x.change(1, 1, 2), 3);
    }

    static void aRemarkIsOfANoteAlone() {
        says("if it was not THERE, or a NOTE, and is a NOTE, or not THERE");
        for (int kind : row(PAGE, FIELD, LIST)) {
            SealedFile x = fileOf(row(9, SEAL, 2), row(5, kind, 1), row(5, NOTE, 1), row(5, kind, 1), row(5, GONE, 1));
            for (int i = 0; i < 4; i++) {
                due("KIND " + kind + ", NOTE, and back: " + i, x.change(0, i, 2), 3);
            }
        }
    }

    static void aRemarkIsOfAListByThingsNotThere() {
        says("also if it was a LIST and is one, and all THINGS that one of these names and the other does not were not THERE behind the REVISION of the SEAL");
        int[][] lists = {
            // VALUE, the new one, the sort: THINGS 0, 15 and the LIST, 5, are THERE, so is the SEAL, 9
            {0, 2, 2}, {2, 0, 2}, {0, 0x4000, 2}, {0x4000, 0, 2}, {0, 1, 3}, {1, 0, 3}, {0, 0x8000, 3}, {0x8000, 0, 3},
            {0x8001, 0x8003, 2}, {0x8003, 0x8001, 2}, {0, 3, 3}, {2, 1, 3}, {2, 4, 2}, {0, 0x7DDE, 2}, {0x7DDE, 0, 2},
            {0, 0x20, 3}, {0, 0x200, 3}, {0x8221, 0xFFFF, 2}, {0xFFFF, 0x8221, 2}, {0xFFFF, 0, 3}, {0xFFFF, 0xFFFE, 3}};
        for (int[] l : lists) {
            SealedFile x = fileOf(row(0, PAGE, 1, 15, NOTE, 1, 5, LIST, l[0], 9, SEAL, 2), row(5, LIST, l[1]));
            due(l[0] + " to " + l[1], x.judge(3, 0), l[2]);
        }
    }

    static void whatAListNamesIsLookedForBehindTheSeal() {
        says("were not THERE behind the REVISION of the SEAL");
        SealedFile x = fileOf(row(5, LIST, 0, 9, SEAL, 2), row(1, NOTE, 1), row(5, LIST, 2));
        due("came one REVISION later", x.change(1, 1, 2), 2);
        x = fileOf(row(5, LIST, 0), row(1, NOTE, 1, 9, SEAL, 2), row(5, LIST, 2));
        due("came in the REVISION of the SEAL", x.change(2, 0, 2), 3);
        x = fileOf(row(5, LIST, 0), row(9, SEAL, 2, 1, NOTE, 1), row(5, LIST, 2));
        due("in it, behind the SEAL", x.change(1, 0, 2), 3);
        x = fileOf(row(5, LIST, 0, 1, NOTE, 1), row(9, SEAL, 2), row(1, GONE, 0), row(5, LIST, 2));
        due("went one REVISION later", x.change(2, 1, 2), 3);
        x = fileOf(row(5, LIST, 0, 1, NOTE, 1), row(1, GONE, 0, 9, SEAL, 2), row(5, LIST, 2));
        due("went in the REVISION of the SEAL", x.change(3, 0, 2), 2);
    }

    static void aShadowedThingIsTamperedWith() {
        says("A THING that is SHADOWED in a REVISION behind that of the SEAL is TAMPERED with there, whatever else.");
        SealedFile x = fileOf(row(5, FIELD, 1, 9, SEAL, 2), row(5, FIELD, 2));
        due("one WRITE", x.change(1, 0, 2), 1);
        x.put(5, FIELD, 2);
        due("two alike", x.change(1, 0, 2), 1);
        x.put(5, FIELD, 3);
        due("the third unlike", x.change(1, 0, 2), 3);
        x.close();
        x.put(5, FIELD, 4);
        due("there", x.change(1, 0, 2), 3);
        due("not in the next", x.change(1, 1, 2), 1);
        x = fileOf(row(5, FIELD, 1, 9, SEAL, 2), row(5, FIELD, 2, 5, FIELD, 1));
        due("as it was, whatever else: one", x.judge(1, 1), 1);
        due("as it was, whatever else: sort", x.change(1, 0, 2), 3);
        x = fileOf(row(9, SEAL, 2), row(5, NOTE, 1, 5, GONE, 0));
        due("never THERE behind a REVISION", x.change(0, 0, 2), 3);
        x = fileOf(row(9, SEAL, 2), row(0, GONE, 1, 0, GONE, 2, 15, SEAL, 0, 15, SEAL, 1));
        due("GONE twice, THING 0", x.change(0, 0, 1), 0);
        due("SEALS that came, THING 15", x.change(0, 1, 1), 15);
        due("how many", x.judge(0, 2), 2);
    }

    static void shadowedInItsOwnRevisionIsNoChange() {
        says("SHADOWED in a REVISION behind that of the SEAL");
        SealedFile x = fileOf(row(5, FIELD, 1), row(5, FIELD, 2, 5, FIELD, 3, 9, SEAL, 0, 6, NOTE, 1, 6, NOTE, 2), row());
        due("in the REVISION of the SEAL", x.judge(3, 1), 0);
        x.put(5, FIELD, 4);
        x.put(5, FIELD, 5);
        due("in the next", x.judge(3, 2), 1);
    }

    static void changesAreToldByRevisionsThenThings() {
        says("CHANGES are told by REVISIONS, in one by THINGS.");
        SealedFile x = fileOf(row(9, SEAL, 2), row(15, NOTE, 1, 7, NOTE, 1, 0, NOTE, 1), row(1, NOTE, 1, 0, NOTE, 2), row(15, NOTE, 3));
        int[][] want = {{1, 0}, {1, 7}, {1, 15}, {2, 0}, {2, 1}, {3, 15}, {NONE, NONE}};
        for (int i = 0; i < want.length; i++) {
            due("REVISION of " + i, x.change(0, i, 0), want[i][0]);
            due("THING of " + i, x.change(0, i, 1), want[i][1]);
        }
    }

    // ---- VERDICT, HOLDS

    static void verdictIsTheGreatestOfItsChanges() {
        says("VERDICT of a SEAL: the greatest of its CHANGES, 0: there are none.");
        SealedFile x = fileOf(row(1, FIELD, 1, 9, SEAL, 2), row());
        due("there are none", x.judge(1, 0), 0);
        x.put(1, FIELD, 1);
        due("there are none", x.judge(1, 0), 0);
        x.put(2, SEAL, 0);
        due("a FILLING", x.judge(1, 0), 1);
        x.put(0, NOTE, 0);
        due("a REMARK ahead of it", x.judge(1, 0), 2);
        x.put(3, PAGE, 0);
        due("TAMPERING behind", x.judge(1, 0), 3);
        x.close();
        x.put(1, FIELD, 2);
        due("a FILLING later", x.judge(1, 0), 3);
    }

    static void itHoldsIfVerdictIsNoMoreThanItsLevel() {
        says("It HOLDS, if VERDICT is no more than its LEVEL, and it has no FLAWS.");
        int[][] then = {row(), row(1, FIELD, 2), row(2, NOTE, 1), row(3, PAGE, 1)};
        for (int level = 0; level <= 2; level++) {
            for (int verdict = 0; verdict <= 3; verdict++) {
                SealedFile x = fileOf(row(1, FIELD, 1, 9, SEAL, level), then[verdict]);
                due("VERDICT", x.judge(1, 0), verdict);
                due("LEVEL " + level + ", VERDICT " + verdict, x.judge(1, 3), verdict <= level ? 1 : 0);
            }
        }
    }

    static void itHoldsIfItHasNoFlaws() {
        says("and it has no FLAWS");
        int[][] covers = {{0, 5, 10, 12}, {1, 5, 10, 12}, {0, 4, 10, 12}, {0, 5, 11, 12}, {0, 5, 10, 11}};
        for (int[] c : covers) {
            SealedFile x = fileOf(row(1, FIELD, 1, 9, SEAL, 2));
            due("cover", x.cover(1, c[0], c[1], c[2], c[3]), 1);
            x.close();
            due("VERDICT", x.judge(1, 0), 0);
            due("HOLDS, FLAWS " + x.flaws(1), x.judge(1, 3), c == covers[0] ? 1 : 0);
        }
        SealedFile x = fileOf(row(1, FIELD, 1, 9, SEAL, 2), row());
        x.alter(0, 2);
        due("THE NUMBER does not come out", x.judge(1, 3), 0);
        x.alter(0, 1);
        due("it does", x.judge(1, 3), 1);
    }

    // ---- the file

    static void allowedIs3IfThereAreNoSeals() {
        says("the least LEVEL of all SEALS of REVISIONS ahead of it (3: there are none)");
        SealedFile x = fileOf(row(1, PAGE, 1));
        due("none", x.allowed(0), 3);
        x.put(9, SEAL, 2);
        due("one of its own REVISION", x.allowed(0), 3);
        x.close();
        due("one of its own REVISION, CLOSED", x.allowed(0), 3);
        due("one of the REVISION ahead", x.allowed(1), 2);
    }

    static void allowedIsTheLeastLevel() {
        says("ALLOWED in a REVISION is the least LEVEL of all SEALS of REVISIONS ahead of it");
        for (int level = 0; level <= 2; level++) {
            due("LEVEL " + level, fileOf(row(9, SEAL, level), row()).allowed(1), level);
        }
        SealedFile x = fileOf(row(1, SEAL, 2), row(2, SEAL, 1), row(3, SEAL, 2), row(4, SEAL, 0), row());
        int[] want = {3, 2, 1, 1, 0};
        for (int r = 0; r < 5; r++) {
            due("in " + r, x.allowed(r), want[r]);
        }
        x = fileOf(row(1, SEAL, 0), row(1, GONE, 0), row());
        due("its THING is GONE, the WRITE is a SEAL", x.allowed(2), 0);
        x = fileOf(row(1, SEAL, 1, 1, SEAL, 2), row());
        due("two of one THING", x.allowed(1), 1);
    }

    static void firstIsTheFirstChange() {
        says("FIRST is the first CHANGE (by REVISIONS, THINGS) of any SEAL that is more than its LEVEL.");
        SealedFile x = fileOf(row(9, SEAL, 0), row(15, NOTE, 1), row(0, NOTE, 1));
        due("the REVISION goes first", x.first(0), 1);
        due("its THING", x.first(1), 15);
        x = fileOf(row(9, SEAL, 0), row(15, NOTE, 1, 0, NOTE, 1));
        due("in one the least THING", x.first(1), 0);
        x = fileOf(row(9, SEAL, 0), row(9, SEAL, 0), row(1, GONE, 0));
        due("no CHANGE", x.first(0), NONE);
    }

    static void firstIsMoreThanTheLevel() {
        says("that is more than its LEVEL");
        int[] things = {1, 2, 3};
        for (int level = 0; level <= 2; level++) {
            SealedFile x = fileOf(row(1, FIELD, 1, 9, SEAL, level), row(1, FIELD, 2, 2, NOTE, 1, 3, PAGE, 1));
            due("LEVEL " + level, x.first(1), things[level]);
        }
        SealedFile x = fileOf(row(1, FIELD, 1, 9, SEAL, 2), row(1, FIELD, 2, 2, NOTE, 1));
        due("none is more", x.first(1), NONE);
        x.alter(1, 1);
        due("of a lower LEVEL one is", x.first(1), 2);
    }

    static void firstIsOfAnySeal() {
        says("of any SEAL that is more than its LEVEL");
        SealedFile x = fileOf(row(9, SEAL, 2), row(8, SEAL, 0), row(7, NOTE, 1));
        due("more for the second alone: REVISION", x.first(0), 2);
        due("more for the second alone: THING", x.first(1), 7);
        due("more for the second alone: SEAL", x.first(2), 1);
        x.alter(0, 1);
        due("more for both: the first SEAL", x.first(2), 0);
        x.alter(0, 0);
        due("the second SEAL is a FILLING, more for the first", x.first(1), 8);
    }

    static void holdingAreSealsOfClosedRevisions() {
        says("HOLDING are SEALS (of CLOSED REVISIONS) that HOLD.");
        SealedFile x = fileOf(row(9, SEAL, 2));
        due("open", x.holding(0), 0);
        due("open", x.holding(1), 0);
        x.close();
        due("CLOSED", x.holding(0), 1);
        due("CLOSED", x.holding(1), 1);
        x.put(1, PAGE, 1);
        due("one that does not HOLD", x.holding(0), 0);
        due("one that does not HOLD", x.holding(1), 1);
    }

    // ---- BETTER

    private static void betterIs(String when, SealedFile x, int write, int holding) {
        due(when + ", which", x.better(0), write);
        due(when + ", how many HOLD", x.better(1), holding);
    }

    static void betterIsAsIfItWasNotTold() {
        says("the WRITE that had better not be (as if it was not told");
        betterIs("one that tampers", fileOf(row(9, SEAL, 2), row(1, NOTE, 1, 2, PAGE, 1)), 2, 1);
        betterIs("one of two that shadow", fileOf(row(9, SEAL, 2), row(1, NOTE, 1, 1, NOTE, 2)), 1, 1);
        betterIs("one between two alike", fileOf(row(9, SEAL, 2), row(1, NOTE, 1, 1, NOTE, 2, 1, NOTE, 1)), 2, 1);
        betterIs("one that brings what is changed later", fileOf(row(9, SEAL, 2, 1, NOTE, 1), row(1, NOTE, 2)), 1, 1);
        betterIs("one that was told once, and is GONE", fileOf(row(9, SEAL, 2, 1, PAGE, 1), row(1, GONE, 1)), 1, 1);
        betterIs("one that was told twice, and is GONE", fileOf(row(9, SEAL, 2, 1, PAGE, 1, 1, PAGE, 1), row(1, GONE, 1)), 3, 1);
        betterIs("one by which what a LIST names is THERE", fileOf(row(9, SEAL, 2, 1, PAGE, 1, 2, LIST, 0), row(2, LIST, 2)), 1, 1);
        betterIs("two that tamper", fileOf(row(9, SEAL, 2), row(1, PAGE, 1, 2, PAGE, 1)), 0, 0);
    }

    static void betterLeavesBytesAndFlaws() {
        says("its BYTES stay as they are, and FLAWS too");
        SealedFile x = fileOf(row(1, FIELD, 1, 9, SEAL, 2), row());
        betterIs("a WRITE that it COVERS", x, 0, 1);
        x.alter(0, 2);
        betterIs("its FLAW stays", x, 0, 0);
        x = fileOf(row(1, FIELD, 1), row(9, SEAL, 2), row(2, PAGE, 1));
        betterIs("BYTES do not move", x, 2, 1);
    }

    static void betterIsByWhichMostSealsHold() {
        says("by which most SEALS HOLD");
        SealedFile x = fileOf(row(1, FIELD, 1, 8, SEAL, 1, 9, SEAL, 0), row(1, FIELD, 2, 2, NOTE, 1));
        betterIs("one of two HOLDS", x, 4, 1);
        x.undo();
        betterIs("both HOLD", x, 3, 2);
        x.undo();
        betterIs("both HOLD already", x, 0, 2);
    }

    static void ofLikeOnesTheLeast() {
        says("of like ones the least");
        betterIs("no SEALS", fileOf(row(1, PAGE, 1, 2, PAGE, 1)), 0, 0);
        betterIs("WRITE 0 is a SEAL", fileOf(row(9, SEAL, 2, 1, PAGE, 1, 2, PAGE, 1), row()), 1, 1);
        betterIs("any of the last two", fileOf(row(9, SEAL, 2), row(2, NOTE, 1, 2, NOTE, 2)), 1, 1);
    }

    static void oneThatIsASealDoesNotCountThen() {
        says("one that is a SEAL does not count then");
        betterIs("a SEAL alone", fileOf(row(9, SEAL, 2), row()), 0, 0);
        betterIs("two SEALS", fileOf(row(8, SEAL, 2, 9, SEAL, 2), row()), 0, 1);
        betterIs("rather the PAGE", fileOf(row(8, SEAL, 2, 9, SEAL, 2, 1, PAGE, 1), row()), 2, 2);
        betterIs("a SEAL that was one too many", fileOf(row(7, SEAL, 0, 8, SEAL, 0), row(9, SEAL, 2)), 2, 2);
        betterIs("an open SEAL never counts", fileOf(row(8, SEAL, 2, 1, PAGE, 1), row(9, SEAL, 2)), 1, 1);
    }

    static void anyWriteMayBeBetter() {
        says("BETTER: the WRITE that had better not be");
        SealedFile x = fileOf(row(9, SEAL, 2), row());
        for (int n = 2; n <= 39; n++) {
            x.put(1, NOTE, 1);
        }
        x.put(2, PAGE, 1);
        betterIs("the 40th", x, 39, 1);
        x.undo();
        x.put(1, NOTE, 1);
        betterIs("none tampers: the least but the SEAL", x, 1, 1);
        x = fileOf(row(1, NOTE, 1, 9, SEAL, 2), row(1, NOTE, 2));
        betterIs("WRITE 0", x, 0, 1);
    }
}
