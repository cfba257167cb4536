/** The boundary cases of promises 13 to 22: seals, and the file as a whole. */
public final class SealsEdgeTest extends EdgeCase {
    private static final int[] NO_WRITE = {-1, 3, 39, 40, LEAST, MOST};

    public static void main(String[] args) throws IllegalAccessException {
        runAll(SealsEdgeTest.class);
    }

    /** WRITE 0 is no SEAL, WRITE 1 is one of a CLOSED REVISION, WRITE 2 is one of the open REVISION. */
    private static SealedFile threeWrites() {
        return fileOf(row(1, FIELD, 1, 8, SEAL, 1), row(9, SEAL, 2));
    }

    // ---- promise 13

    static void coversTells0To3() {
        says("A (what = 0) to D (3) of a SEAL. BAD; NOT: it is no SEAL.");
        SealedFile x = threeWrites();
        int[][] want = {{NOT, NOT, NOT, NOT}, {0, 5, 10, 12}, {0, 12, 17, 17}};
        for (int w = 0; w <= 2; w++) {
            for (int what = 0; what <= 3; what++) {
                due("covers(" + w + ", " + what + ")", x.covers(w, what), want[w][what]);
            }
            for (int what : row(-1, 4, LEAST, MOST)) {
                due("covers(" + w + ", " + what + "), BAD goes first", x.covers(w, what), BAD);
            }
        }
        for (int w : NO_WRITE) {
            due("WRITE " + w, x.covers(w, 0), BAD);
        }
    }

    // ---- promise 14

    static void coveredTellsHowManyThereAre() {
        says("How many BYTES (that there are) a SEAL COVERS.");
        SealedFile x = fileOf(row(9, SEAL, 2));
        due("none", x.covered(0), 0);
        int[][] covers = {
            // A to D, how many of five BYTES
            {0, 0, 0, 0, 0}, {0, 1, 1, 1, 1}, {0, 0, 0, 1, 1}, {0, 4, 5, 5, 4}, {0, 5, 5, 5, 5}, {0, 6, 6, 6, 5},
            {4, 5, 5, 5, 1}, {5, 6, 6, 6, 0}, {0, 0, 4, 6, 1}, {0, 0, 5, 6, 0}, {0, 2, 3, 400, 4}, {0, 400, 400, 400, 5},
            {400, 400, 400, 400, 0}, {0, 3, 3, 400, 5}, {3, 3, 3, 3, 0}, {6, 7, 8, 400, 0}};
        for (int[] c : covers) {
            due("cover", x.cover(0, c[0], c[1], c[2], c[3]), 1);
            due(c[0] + " to " + c[1] + ", " + c[2] + " to " + c[3], x.covered(0), c[4]);
        }
        x.cover(0, 0, 0, 5, 400);
        x.close();
        due("the closing", x.covered(0), 2);
        x.put(1, PAGE, 1);
        due("five more", x.covered(0), 7);
    }

    static void coveredRefuses() {
        says("a SEAL COVERS. BAD; NOT: it is no SEAL.");
        SealedFile x = threeWrites();
        for (int w : NO_WRITE) {
            due("WRITE " + w, x.covered(w), BAD);
        }
        due("no SEAL", x.covered(0), NOT);
        due("a SEAL, CLOSED", x.covered(1), 7);
        due("a SEAL, open", x.covered(2), 12);
    }

    // ---- promise 15

    static void numberTells0And1() {
        says("THE NUMBER of a SEAL as it is (what = 0), as it was KEPT (1).");
        SealedFile x = threeWrites();
        due("as it is", x.number(1, 0), numberOf(79, 1, 1, 0, 1, 0, 0));
        due("as KEPT", x.number(1, 1), numberOf(79, 1, 1, 0, 1, 0, 0));
        x.alter(0, 0);
        due("as it is", x.number(1, 0), numberOf(79, 1, 1, 0, 0, 0, 0));
        due("as KEPT", x.number(1, 1), numberOf(79, 1, 1, 0, 1, 0, 0));
    }

    static void numberRefusesWithTheLeastInt() {
        says("The least int: BAD, it is no SEAL, of a REVISION that is open.");
        SealedFile x = threeWrites();
        for (int what = 0; what <= 1; what++) {
            for (int w : NO_WRITE) {
                due("WRITE " + w, x.number(w, what), LEAST);
            }
            due("no SEAL", x.number(0, what), LEAST);
            due("open", x.number(2, what), LEAST);
            due("a SEAL, CLOSED", x.number(1, what) == LEAST ? 1 : 0, 0);
        }
        for (int what : row(-1, 2, LEAST, MOST)) {
            due("what " + what, x.number(1, what), LEAST);
        }
        due("no FINDING", x.count(8), 0);
        x.close();
        due("CLOSED now", x.number(2, 0), x.number(2, 1));
        due("CLOSED now", x.number(2, 0) == LEAST ? 1 : 0, 0);
    }

    // ---- promise 16

    static void flawsRefuses() {
        says("FLAWS of a SEAL. BAD; NOT: it is no SEAL, or its REVISION is open.");
        SealedFile x = threeWrites();
        for (int w : NO_WRITE) {
            due("WRITE " + w, x.flaws(w), BAD);
        }
        due("no SEAL", x.flaws(0), NOT);
        due("open", x.flaws(2), NOT);
        due("CLOSED", x.flaws(1), 0);
        x.close();
        due("CLOSED now", x.flaws(2), 0);
        due("no SEAL, CLOSED", x.flaws(0), NOT);
    }

    // ---- promise 17

    static void judgeTells0To3() {
        says("Of a SEAL VERDICT (what = 0), how many CHANGES (1), how many of these are TAMPERING (2), whether it HOLDS (3: 1, 0).");
        SealedFile x = fileOf(row(1, FIELD, 1, 9, SEAL, 2), row());
        int[][] puts = {{1, FIELD, 1}, {1, FIELD, 1}, {2, NOTE, 1}, {3, PAGE, 1}, {4, PAGE, 1}, {3, PAGE, 2}};
        int[][] want = {{0, 0, 0, 1}, {0, 0, 0, 1}, {2, 1, 0, 1}, {3, 2, 1, 0}, {3, 3, 2, 0}, {3, 3, 2, 0}};
        for (int k = 0; k < puts.length; k++) {
            x.put(puts[k][0], puts[k][1], puts[k][2]);
            for (int what = 0; what <= 3; what++) {
                due("behind put " + k + ", judge(1, " + what + ")", x.judge(1, what), want[k][what]);
            }
        }
    }

    static void judgeTellsOfEachSealByItself() {
        says("Of a SEAL VERDICT");
        SealedFile x = fileOf(row(7, SEAL, 0), row(8, SEAL, 1), row(9, SEAL, 2, 1, NOTE, 1));
        int[][] want = {{2, 3, 0, 0}, {2, 2, 0, 0}, {NOT, NOT, NOT, NOT}};
        for (int w = 0; w <= 2; w++) {
            for (int what = 0; what <= 3; what++) {
                due("judge(" + w + ", " + what + ")", x.judge(w, what), want[w][what]);
            }
        }
        x.close();
        due("the last HOLDS", x.judge(2, 3), 1);
        x.put(1, NOTE, 2);
        due("TAMPERING for the last alone", x.judge(2, 2), 1);
        due("TAMPERING for the last alone", x.judge(1, 2), 0);
        due("TAMPERING for the last alone", x.judge(0, 2), 0);
    }

    static void judgeRefuses() {
        says("whether it HOLDS (3: 1, 0). BAD; NOT: it is no SEAL, or its REVISION is open.");
        SealedFile x = threeWrites();
        for (int what = 0; what <= 3; what++) {
            for (int w : NO_WRITE) {
                due("WRITE " + w, x.judge(w, what), BAD);
            }
            due("no SEAL", x.judge(0, what), NOT);
            due("open", x.judge(2, what), NOT);
        }
        for (int w = 0; w <= 2; w++) {
            for (int what : row(-1, 4, LEAST, MOST)) {
                due("what " + what + ", BAD goes first", x.judge(w, what), BAD);
            }
        }
        due("CLOSED", x.judge(1, 0), 1);
        x.close();
        due("CLOSED now", x.judge(2, 0), 0);
    }

    // ---- promise 18

    static void changeTells0To99() {
        says("Of the i-th CHANGE (0 to 99) of a SEAL the REVISION (what = 0), the THING (1), 1 to 3 (2); NONE.");
        SealedFile x = fileOf(row(1, FIELD, 1, 9, SEAL, 2), row(0, PAGE, 1, 1, FIELD, 2), row(15, NOTE, 1));
        int[][] want = {{1, 0, 3}, {1, 1, 1}, {2, 15, 2}};
        for (int what = 0; what <= 2; what++) {
            for (int i = 0; i < 3; i++) {
                due("change(1, " + i + ", " + what + ")", x.change(1, i, what), want[i][what]);
            }
            for (int i : row(3, 4, 98, 99)) {
                due("there is no " + i, x.change(1, i, what), NONE);
            }
            for (int i : row(-1, -2, 100, 101, LEAST, MOST)) {
                due("BAD " + i, x.change(1, i, what), BAD);
            }
        }
    }

    static void changeTellsOfManyChanges() {
        says("Of the i-th CHANGE (0 to 99)");
        SealedFile x = fileOf(row(9, SEAL, 2), row());
        for (int n = 0; n < 39; n++) {
            due("put", x.put(n % 6, NOTE, n), n + 2);
            if (n % 6 == 5) {
                due("close", x.close(), n / 6 + 2);
            }
        }
        due("as many as there can be", x.judge(0, 1), 39);
        for (int i = 0; i < 39; i++) {
            due("REVISION of " + i, x.change(0, i, 0), i / 6 + 1);
            due("THING of " + i, x.change(0, i, 1), i % 6);
        }
        due("the last", x.change(0, 38, 2), 2);
        due("behind it", x.change(0, 39, 2), NONE);
    }

    static void changeOfASecondSealBeginsAt0() {
        says("Of the i-th CHANGE (0 to 99) of a SEAL");
        SealedFile x = fileOf(row(8, SEAL, 2), row(1, NOTE, 1, 9, SEAL, 2), row(2, NOTE, 1));
        due("the first SEAL", x.change(0, 0, 1), 1);
        due("the first SEAL, a SEAL that came", x.change(0, 1, 1), 9);
        due("the first SEAL", x.change(0, 2, 1), 2);
        due("the second SEAL", x.change(2, 0, 1), 2);
        due("the second SEAL", x.change(2, 1, 1), NONE);
    }

    static void changeRefuses() {
        says("1 to 3 (2); NONE. BAD; NOT: it is no SEAL, or its REVISION is open.");
        SealedFile x = threeWrites();
        for (int what = 0; what <= 2; what++) {
            for (int w : NO_WRITE) {
                due("WRITE " + w, x.change(w, 0, what), BAD);
            }
            due("no SEAL", x.change(0, 0, what), NOT);
            due("open", x.change(2, 0, what), NOT);
            due("open, NOT goes ahead of NONE", x.change(2, 99, what), NOT);
        }
        for (int w = 0; w <= 2; w++) {
            for (int what : row(-1, 3, LEAST, MOST)) {
                due("what " + what + ", BAD goes first", x.change(w, 0, what), BAD);
                due("what " + what + ", BAD goes ahead of NONE", x.change(w, 99, what), BAD);
            }
            due("100, BAD goes first", x.change(w, 100, 0), BAD);
            due("-1, BAD goes first", x.change(w, -1, 0), BAD);
        }
        due("CLOSED", x.change(1, 0, 2), 1);
        x.close();
        due("CLOSED now", x.change(2, 0, 0), NONE);
    }

    // ---- promise 19

    static void allowedRefuses() {
        says("`int allowed(int revision)`: ALLOWED. BAD.");
        SealedFile x = new SealedFile();
        due("the open one", x.allowed(0), 3);
        for (int r : row(-1, 1, 7, 8, LEAST, MOST)) {
            due("REVISION " + r, x.allowed(r), BAD);
        }
        x.put(9, SEAL, 0);
        x.close();
        due("the open one", x.allowed(1), 0);
        due("the CLOSED one", x.allowed(0), 3);
        due("none behind", x.allowed(2), BAD);
        closeUpTo(x, 7);
        due("the eighth", x.allowed(7), 0);
        due("the ninth", x.allowed(8), BAD);
    }

    // ---- promise 20

    static void firstTells0To2() {
        says("FIRST: the REVISION (what = 0), the THING (1), the first SEAL (2: its WRITE) by which it is more; NONE. BAD.");
        SealedFile x = new SealedFile();
        for (int what = 0; what <= 2; what++) {
            due("a new object", x.first(what), NONE);
        }
        for (int what : row(-1, 3, LEAST, MOST)) {
            due("what " + what + ", BAD goes ahead of NONE", x.first(what), BAD);
        }
        x = fileOf(row(8, SEAL, 2, 9, SEAL, 1), row(15, NOTE, 1));
        int[] want = {1, 15, 1};
        for (int what = 0; what <= 2; what++) {
            due("first(" + what + ")", x.first(what), want[what]);
        }
        for (int what : row(-1, 3, LEAST, MOST)) {
            due("what " + what, x.first(what), BAD);
        }
    }

    static void firstOfTheLastRevisionAndThing() {
        says("the first SEAL (2: its WRITE) by which it is more");
        SealedFile x = fileOf(row(9, SEAL, 1, 7, PAGE, 7), row());
        closeUpTo(x, 7);
        due("none yet", x.first(0), NONE);
        x.put(15, NOTE, 0);
        due("the eighth", x.first(0), 7);
        due("THING 15", x.first(1), 15);
        due("WRITE 0", x.first(2), 0);
        x.undo();
        x.put(15, SEAL, 0);
        due("it is no more than LEVEL 1, and of LEVEL 0 none is ahead", x.first(2), NONE);
    }

    // ---- promise 21

    static void holdingTells0And1() {
        says("HOLDING: how many (what = 0), how many SEALS there are of CLOSED REVISIONS (1). BAD.");
        SealedFile x = new SealedFile();
        due("none", x.holding(0), 0);
        due("none", x.holding(1), 0);
        for (int what : row(-1, 2, LEAST, MOST)) {
            due("what " + what, x.holding(what), BAD);
        }
        for (int n = 1; n <= 40; n++) {
            x.put(9, SEAL, 2);
        }
        due("40, open", x.holding(1), 0);
        x.close();
        due("40, CLOSED", x.holding(0), 40);
        due("40, CLOSED", x.holding(1), 40);
        x.alter(39, 1);
        due("one does not COVER itself", x.holding(0), 1);
        due("they stay SEALS", x.holding(1), 40);
    }

    // ---- promise 22

    static void betterTells0And1() {
        says("BETTER: which (what = 0), how many HOLD then (1); NONE: there are no WRITES. BAD.");
        SealedFile x = new SealedFile();
        due("no WRITES", x.better(0), NONE);
        due("no WRITES", x.better(1), NONE);
        for (int what : row(-1, 2, LEAST, MOST)) {
            due("what " + what + ", BAD goes ahead of NONE", x.better(what), BAD);
        }
        x.put(1, PAGE, 1);
        due("one", x.better(0), 0);
        due("one", x.better(1), 0);
        for (int what : row(-1, 2, LEAST, MOST)) {
            due("what " + what, x.better(what), BAD);
        }
        x.undo();
        due("none again", x.better(0), NONE);
        due("none again", x.better(1), NONE);
    }

    static void betterChangesNothing() {
        says("BETTER: which (what = 0), how many HOLD then (1)");
        SealedFile x = fileOf(row(1, FIELD, 1, 9, SEAL, 2), row(2, PAGE, 1, 2, PAGE, 2));
        long before = x.digest();
        due("which", x.better(0), 0);
        due("how many", x.better(1), 0);
        due("SHADOWED as before", x.shadows(1), 4);
        due("VERDICT as before", x.judge(1, 0), 3);
        due("all as before", x.digest(), before);
    }
}
