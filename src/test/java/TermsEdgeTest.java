/** The boundary cases of "What it is", and of "Terms" up to THE FILE: WRITES, REVISIONS, THINGS, BYTES. */
public final class TermsEdgeTest extends EdgeCase {
    private static final int[] BELOW_AND_FAR = {-1, -2, -3, -4, LEAST, MOST};

    public static void main(String[] args) throws IllegalAccessException {
        runAll(TermsEdgeTest.class);
    }

    // ---- what it is

    static void writesAre40AtMost() {
        says("WRITES, 40 at most");
        SealedFile x = new SealedFile();
        fillUpTo(x, 39);
        due("the 40th", x.put(1, FIELD, 1), 40);
        due("the 41st", x.put(1, FIELD, 2), FULL);
        due("how many", x.count(0), 40);
        due("BYTES", x.bytes(NONE), 200);
        due("one less", x.undo(), 39);
        due("the 40th anew", x.put(2, NOTE, 1), 40);
        due("the 41st", x.put(2, NOTE, 1), FULL);
    }

    static void writesOfAllRevisionsAre40AtMost() {
        says("WRITES, 40 at most, are 0 on, in REVISIONS");
        SealedFile x = new SealedFile();
        closeUpTo(x, 7);
        fillUpTo(x, 39);
        due("the 40th", x.put(1, FIELD, 1), 40);
        due("the 41st", x.put(1, FIELD, 1), FULL);
        due("how many in the last", x.revision(7, 1), 33);
    }

    static void writesAre0On() {
        says("WRITES, 40 at most, are 0 on");
        SealedFile x = new SealedFile();
        due("none yet", x.write(0, 0), BAD);
        x.put(3, NOTE, 9);
        due("the first is 0", x.write(0, 0), 3);
        due("none ahead of 0", x.write(-1, 0), BAD);
        due("none behind it", x.write(1, 0), BAD);
        fillUpTo(x, 39);
        due("not yet", x.write(39, 0), BAD);
        x.put(4, LIST, 8);
        due("the last of 40", x.write(39, 0), 4);
        due("behind it", x.write(40, 0), BAD);
    }

    static void revisionsAre8AtMost() {
        says("in REVISIONS, 8 at most");
        SealedFile x = new SealedFile();
        closeUpTo(x, 6);
        due("no eighth yet", x.revision(7, 0), BAD);
        x.put(0, PAGE, 0);
        due("the seventh is CLOSED", x.close(), 7);
        due("the eighth", x.revision(7, 0), 7);
        due("no ninth", x.revision(8, 0), BAD);
        due("a WRITE in the eighth", x.put(0, PAGE, 1), 8);
        due("it stays open", x.close(), FULL);
        due("how many are CLOSED", x.count(1), 7);
        due("no ninth", x.revision(8, 0), BAD);
        due("another WRITE in the eighth", x.put(0, PAGE, 2), 9);
        due("its REVISION", x.write(8, 3), 7);
    }

    static void revisionsAreOneBehindAnother() {
        says("in REVISIONS, 8 at most, one behind another");
        SealedFile x = fileOf(row(0, PAGE, 1), row(1, PAGE, 1, 2, PAGE, 1), row(3, PAGE, 1), row());
        for (int r = 1; r <= 3; r++) {
            due("the first WRITE of " + r, x.revision(r, 0), x.revision(r - 1, 0) + x.revision(r - 1, 1));
            due("the first BYTE of " + r, x.revision(r, 2), x.revision(r - 1, 3));
        }
        int[] home = {0, 1, 1, 2};
        for (int w = 0; w < 4; w++) {
            due("REVISION of " + w, x.write(w, 3), home[w]);
        }
    }

    static void theLastRevisionIsOpen() {
        says("the last REVISION is open, all others are CLOSED.");
        SealedFile x = fileOf(row(0, SEAL, 0), row(1, SEAL, 0));
        due("the first is CLOSED", x.cover(0, 0, 0, 0, 0), NOT);
        due("the first is CLOSED", x.flaws(0), 0);
        due("the last is open", x.cover(1, 0, 7, 12, 14), 1);
        due("the last is open", x.flaws(1), NOT);
        x.close();
        due("CLOSED now", x.cover(1, 0, 7, 12, 14), NOT);
        due("CLOSED now", x.flaws(1), 0);
    }

    static void anObjectIsUsedFor512Calls() {
        says("An object is used for at most 512 calls after it has been made");
        SealedFile x = new SealedFile();
        for (int call = 1; call <= 509; call += 2) {
            due("call " + call, x.put(15, GONE, 65535), 1);
            due("call " + (call + 1), x.undo(), 0);
        }
        due("call 511", x.put(9, SEAL, 2), 1);
        due("call 512", x.close(), 1);
    }

    static void manyObjectsAreUsedFor512Calls() {
        says("An object is used for at most 512 calls");
        for (int k = 0; k < 20; k++) {
            SealedFile x = new SealedFile();
            for (int n = 1; n <= 40; n++) {
                due("put", x.put(n % 16, n % 6, n % 3), n);
            }
            long is = x.digest();
            for (int call = 42; call <= 512; call++) {
                due("call " + call, x.digest(), is);
            }
        }
    }

    // ---- THING, KIND, VALUE

    static void thingsAre0To15() {
        says("A WRITE is of a THING (0 to 15)");
        SealedFile x = new SealedFile();
        for (int t = 0; t <= 15; t++) {
            due("THING " + t, x.put(t, PAGE, 100 + t), t + 1);
        }
        due("THING 16", x.put(16, PAGE, 0), BAD);
        for (int t : BELOW_AND_FAR) {
            due("THING " + t, x.put(t, PAGE, 0), BAD);
        }
        due("how many", x.count(0), 16);
        for (int t = 0; t <= 15; t++) {
            due("its THING", x.write(t, 0), t);
            due("each is one of its own", x.thing(t, 0, 1), 100 + t);
        }
    }

    static void kindsAre0To5() {
        says("0 PAGE, 1 FIELD, 2 NOTE, 3 LIST (VALUE: THINGS that it names, as bits), 4 SEAL (VALUE 0 to 2: its LEVEL), 5 GONE");
        SealedFile x = new SealedFile();
        for (int k = 0; k <= 5; k++) {
            due("KIND " + k, x.put(k, k, 1), k + 1);
            due("its KIND", x.write(k, 1), k);
        }
        due("KIND 6", x.put(0, 6, 1), BAD);
        for (int k : BELOW_AND_FAR) {
            due("KIND " + k, x.put(0, k, 1), BAD);
        }
        due("how many", x.count(0), 6);
    }

    static void valuesAre0To65535() {
        says("a KIND and a VALUE (0 to 65535)");
        for (int k : row(PAGE, FIELD, NOTE, LIST, GONE)) {
            SealedFile x = new SealedFile();
            due("VALUE 0 of KIND " + k, x.put(1, k, 0), 1);
            due("VALUE 65535 of KIND " + k, x.put(2, k, 65535), 2);
            due("VALUE 65536 of KIND " + k, x.put(3, k, 65536), BAD);
            for (int v : BELOW_AND_FAR) {
                due("VALUE " + v + " of KIND " + k, x.put(3, k, v), BAD);
            }
            due("the least", x.write(0, 2), 0);
            due("the greatest", x.write(1, 2), 65535);
            due("how many", x.count(0), 2);
        }
    }

    static void levelsAre0To2() {
        says("4 SEAL (VALUE 0 to 2: its LEVEL)");
        SealedFile x = new SealedFile();
        for (int level = 0; level <= 2; level++) {
            due("LEVEL " + level, x.put(level, SEAL, level), level + 1);
            due("its LEVEL", x.write(level, 2), level);
        }
        for (int level : row(3, 4, 255, 256, 65535, 65536)) {
            due("LEVEL " + level, x.put(3, SEAL, level), BAD);
        }
        for (int level : BELOW_AND_FAR) {
            due("LEVEL " + level, x.put(3, SEAL, level), BAD);
        }
        due("3 of another KIND", x.put(3, LIST, 3), 4);
    }

    static void aListNamesThingsAsBits() {
        says("3 LIST (VALUE: THINGS that it names, as bits)");
        for (int t = 0; t <= 15; t++) {
            int list = (t + 1) % 16, seal = (t + 2) % 16, other = (t + 3) % 16;
            SealedFile x = fileOf(row(t, PAGE, 1, list, LIST, 0, seal, SEAL, 2), row(list, LIST, 1 << t));
            due("bit " + t + " is of THING " + t + ", THERE", x.judge(2, 0), 3);
            x = fileOf(row(other, PAGE, 1, list, LIST, 0, seal, SEAL, 2), row(list, LIST, 1 << t));
            due("bit " + t + " is of THING " + t + ", not THERE", x.judge(2, 0), 2);
        }
    }

    // ---- what a THING is

    static void aThingIsAsTheLastWriteUpToThereTells() {
        says("Behind a REVISION a THING is as the last WRITE of it up to there tells");
        SealedFile x = fileOf(row(1, PAGE, 1, 1, NOTE, 2, 2, PAGE, 9), row(2, PAGE, 8), row(1, FIELD, 3));
        int[] kinds = {NOTE, NOTE, FIELD}, values = {2, 2, 3}, writes = {1, 1, 4};
        for (int r = 0; r < 3; r++) {
            due("KIND behind " + r, x.thing(1, r, 0), kinds[r]);
            due("VALUE behind " + r, x.thing(1, r, 1), values[r]);
            due("WRITE behind " + r, x.thing(1, r, 2), writes[r]);
        }
        x.undo();
        due("as behind the REVISION ahead", x.thing(1, 2, 2), 1);
    }

    static void aThingIsNotThereIfThereIsNoWrite() {
        says("it is not THERE, if there is none, or that is GONE");
        SealedFile x = fileOf(row(0, PAGE, 0), row(15, PAGE, 0), row());
        for (int what = 0; what <= 2; what++) {
            due("THING 15 ahead of its first WRITE", x.thing(15, 0, what), NONE);
            due("THING 1 without one", x.thing(1, 2, what), NONE);
        }
        due("THING 15 behind it", x.thing(15, 1, 0), PAGE);
        due("WRITE 0 tells too", x.thing(0, 0, 2), 0);
        due("THERE", x.count(5), 2);
    }

    static void aThingIsNotThereIfItIsGone() {
        says("it is not THERE, if there is none, or that is GONE");
        SealedFile x = fileOf(row(3, PAGE, 7), row(3, GONE, 65535), row(3, PAGE, 0));
        due("ahead of it", x.thing(3, 0, 1), 7);
        for (int what = 0; what <= 2; what++) {
            due("GONE, of any VALUE", x.thing(3, 1, what), NONE);
        }
        due("THERE again, of VALUE 0", x.thing(3, 2, 1), 0);
        due("THERE", x.count(5), 1);
        x.put(3, GONE, 0);
        due("GONE in one REVISION", x.thing(3, 2, 2), NONE);
        due("none is THERE", x.count(5), 0);
    }

    static void aThingIsShadowedByTwoWritesInOneRevision() {
        says("A THING is SHADOWED in a REVISION, if that has two WRITES of it");
        SealedFile x = fileOf(row(0, PAGE, 1, 1, PAGE, 1), row(0, PAGE, 2));
        due("one in each", x.shadows(0), 0);
        due("one in each", x.shadows(1), 0);
        x.put(0, PAGE, 3);
        due("two in the second", x.shadows(1), 1);
        due("one in the first", x.shadows(0), 0);
        due("how many", x.count(6), 1);
        x.undo();
        due("one again", x.shadows(1), 0);
    }

    static void onlyWritesOfOneThingShadow() {
        says("two WRITES of it, one behind another (of all of it there)");
        SealedFile x = fileOf(row(0, PAGE, 1, 1, PAGE, 2, 0, PAGE, 1));
        due("another THING between", x.shadows(0), 0);
        x.put(1, PAGE, 3);
        due("of THING 1, one of THING 0 between", x.shadows(0), 2);
        x = fileOf(row(15, NOTE, 1, 15, NOTE, 2, 15, NOTE, 1));
        due("the first and the last alike", x.shadows(0), 1 << 15);
        x = fileOf(row(14, NOTE, 1, 14, NOTE, 1, 14, NOTE, 1));
        due("three alike", x.shadows(0), 0);
        x.put(14, NOTE, 2);
        due("the fourth unlike", x.shadows(0), 1 << 14);
    }

    static void shadowingWritesAreOfUnlikeKindOrValue() {
        says("of unlike KIND or VALUE");
        due("alike", fileOf(row(4, NOTE, 1, 4, NOTE, 1)).shadows(0), 0);
        due("unlike VALUE", fileOf(row(4, NOTE, 1, 4, NOTE, 2)).shadows(0), 16);
        due("unlike KIND", fileOf(row(4, NOTE, 1, 4, PAGE, 1)).shadows(0), 16);
        due("unlike both", fileOf(row(4, NOTE, 1, 4, PAGE, 2)).shadows(0), 16);
        due("GONE, alike", fileOf(row(4, GONE, 1, 4, GONE, 1)).shadows(0), 0);
        due("GONE, unlike VALUE", fileOf(row(4, GONE, 1, 4, GONE, 2)).shadows(0), 16);
        due("THERE, then GONE", fileOf(row(4, PAGE, 0, 4, GONE, 0)).shadows(0), 16);
        due("GONE, then THERE", fileOf(row(4, GONE, 0, 4, PAGE, 0)).shadows(0), 16);
        due("unlike by 256", fileOf(row(4, PAGE, 1, 4, PAGE, 257)).shadows(0), 16);
    }

    // ---- THE FILE

    static void eachWriteHasFiveBytes() {
        says("of each WRITE five: 79, the THING, the KIND, VALUE by 256, what is left of it");
        int[] values = {0, 1, 255, 256, 257, 511, 512, 65280, 65535};
        SealedFile x = new SealedFile();
        for (int n = 0; n < values.length; n++) {
            due("put", x.put(15 - n, n % 4, values[n]), n + 1);
            due("how many BYTES", x.bytes(NONE), 5 * n + 5);
            int[] want = {79, 15 - n, n % 4, values[n] >> 8, values[n] & 255};
            for (int i = 0; i < 5; i++) {
                due("BYTE " + i + " of VALUE " + values[n], x.bytes(5 * n + i), want[i]);
            }
            due("no sixth", x.bytes(5 * n + 5), BAD);
        }
    }

    static void eachClosedRevisionHasTwoBytesMore() {
        says("behind the WRITES of each CLOSED REVISION two: 0, and its number");
        SealedFile x = new SealedFile();
        for (int r = 0; r <= 6; r++) {
            x.put(1, PAGE, 65535);
            due("open, no more than its WRITE", x.bytes(NONE), 7 * r + 5);
            due("open", x.bytes(7 * r + 5), BAD);
            due("close", x.close(), r + 1);
            due("CLOSED", x.bytes(NONE), 7 * r + 7);
            due("0", x.bytes(7 * r + 5), 0);
            due("its number", x.bytes(7 * r + 6), r);
        }
        x.put(1, PAGE, 65535);
        due("the eighth is not CLOSED", x.close(), FULL);
        due("the eighth has none", x.bytes(NONE), 54);
    }

    static void bytesAreCounted0On() {
        says("BYTES are counted 0 on.");
        SealedFile x = new SealedFile();
        due("none", x.bytes(NONE), 0);
        due("BYTE 0 of none", x.bytes(0), BAD);
        x.put(0, PAGE, 77);
        due("the first", x.bytes(0), 79);
        due("the last", x.bytes(4), 77);
        due("behind it", x.bytes(5), BAD);
    }

    static void thereAre214BytesAtMost() {
        says("BYTES are counted 0 on.");
        SealedFile x = new SealedFile();
        for (int n = 1; n <= 40; n++) {
            due("put", x.put(n % 16, FIELD, n), n);
            if (n % 5 == 0 && n < 40) {
                due("close", x.close(), n / 5);
            }
        }
        due("40 WRITES, seven closings", x.bytes(NONE), 214);
        due("the last one", x.bytes(213), 40);
        due("behind it", x.bytes(214), BAD);
        due("its first", x.write(39, 4), 209);
        due("the last REVISION", x.revision(7, 2), 189);
        due("the last REVISION", x.revision(7, 3), 214);
        due("no WRITE more", x.put(0, PAGE, 0), FULL);
        due("no closing more", x.close(), FULL);
        due("as many", x.bytes(NONE), 214);
    }
}
