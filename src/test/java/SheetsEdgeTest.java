import java.math.BigInteger;

/** The boundary cases of SHEETS and FINDINGS in "Terms", and of promises 23 to 30. */
public final class SheetsEdgeTest extends EdgeCase {
    private static final int SAME = 0;
    private static final int[] NO_SHEET = {-1, 4, 5, LEAST, MOST};
    private static final int[] NO_FORM = {-1, 3, 4, LEAST, MOST};

    public static void main(String[] args) throws IllegalAccessException {
        runAll(SheetsEdgeTest.class);
    }

    private static void itemsAre(String when, SealedFile x, int s, int form, int... want) {
        for (int i = 0; i < want.length; i++) {
            due(when + ", item " + i, x.get(s, form, i), want[i]);
        }
    }

    // ---- SHEETS

    static void sheetsAre0To3() {
        says("SHEETS 0 .. 3 are LOST (at first) or a row of a FORM");
        SealedFile x = new SealedFile();
        for (int s = 0; s <= 3; s++) {
            due("LOST at first", x.lose(s), NULL);
            due("SHEET " + s, x.sheet(s, INTS, s + 1), s + 1);
        }
        for (int s = 0; s <= 3; s++) {
            due("lay", x.lay(s, INTS, s, 70 + s), 1);
        }
        for (int s = 0; s <= 3; s++) {
            due("each has a row of its own", x.get(s, INTS, s), 70 + s);
        }
        for (int s : NO_SHEET) {
            due("sheet " + s, x.sheet(s, INTS, 1), BAD);
            due("lose " + s, x.lose(s), BAD);
            due("lay " + s, x.lay(s, INTS, 0, 1), BAD);
            due("get " + s, x.get(s, INTS, 0), LEAST);
            due("copy from " + s, x.copy(s, 0, 0, 0, 1), BAD);
            due("copy to " + s, x.copy(0, 0, s, 0, 1), BAD);
            due("tell " + s, x.tell(0, s), BAD);
            due("read " + s, x.read(s), BAD);
        }
    }

    static void formsAre0To2() {
        says("0 bytes, 1 shorts, 2 ints");
        SealedFile x = new SealedFile();
        for (int form = 0; form <= 2; form++) {
            due("FORM " + form, x.sheet(0, form, 1), 1);
            for (int other = 0; other <= 2; other++) {
                due("laid as of " + other, x.lay(0, other, 0, 1), other == form ? 1 : CAST);
                due("got as of " + other, x.get(0, other, 0), other == form ? 1 : LEAST);
            }
        }
        for (int form : NO_FORM) {
            due("sheet of " + form, x.sheet(0, form, 1), BAD);
            due("lay of " + form, x.lay(0, form, 0, 2), BAD);
            due("get of " + form, x.get(0, form, 0), LEAST);
        }
        due("as it was", x.get(0, INTS, 0), 1);
    }

    static void bytesAndShortsWrap() {
        says("0 bytes, 1 shorts, 2 ints");
        int[][] laid = {
            // v, as a byte, as a short
            {0, 0, 0}, {-1, -1, -1}, {127, 127, 127}, {128, -128, 128}, {-128, -128, -128}, {-129, 127, -129},
            {255, -1, 255}, {256, 0, 256}, {257, 1, 257}, {32767, -1, 32767}, {32768, 0, -32768}, {-32768, 0, -32768},
            {-32769, -1, 32767}, {65535, -1, -1}, {65536, 0, 0}, {65537, 1, 1}, {MOST, -1, -1}, {LEAST, 0, 0}};
        SealedFile x = new SealedFile();
        x.sheet(0, BYTES, 1);
        x.sheet(1, SHORTS, 1);
        x.sheet(2, INTS, 1);
        for (int[] v : laid) {
            for (int form = 0; form <= 2; form++) {
                due("lay", x.lay(form, form, 0, v[0]), 1);
                due(v[0] + " as of FORM " + form, x.get(form, form, 0), form == BYTES ? v[1] : form == SHORTS ? v[2] : v[0]);
            }
        }
    }

    static void sheetsHave0To60Items() {
        says("of 0 to 60 items");
        SealedFile x = new SealedFile();
        for (int form = 0; form <= 2; form++) {
            due("60", x.sheet(0, form, 60), 60);
            due("the last", x.lay(0, form, 59, 9), 1);
            due("the last", x.get(0, form, 59), 9);
            due("behind it", x.lay(0, form, 60, 9), INDEX);
            due("61", x.sheet(0, form, 61), BAD);
            due("0", x.sheet(0, form, 0), 0);
            due("no item 0", x.lay(0, form, 0, 9), INDEX);
            due("-1", x.sheet(0, form, -1), SIZE);
            due("1", x.sheet(0, form, 1), 1);
            due("item 0", x.lay(0, form, 0, 9), 1);
            due("no item 1", x.lay(0, form, 1, 9), INDEX);
        }
    }

    static void itemsAre0AtFirst() {
        says("(0 at first)");
        SealedFile x = new SealedFile();
        for (int form = 0; form <= 2; form++) {
            x.sheet(1, form, 60);
            for (int i = 0; i < 60; i++) {
                due("at first " + i, x.get(1, form, i), 0);
                x.lay(1, form, i, 77);
            }
        }
        x = new SealedFile();
        lay(x, 1, INTS, 5, 6, 7);
        x.sheet(1, INTS, 2);
        itemsAre("a new row, less", x, 1, INTS, 0, 0);
        x.sheet(1, INTS, 3);
        itemsAre("a new row, more", x, 1, INTS, 0, 0, 0);
        lay(x, 1, INTS, 5, 6, 7);
        x.lose(1);
        x.sheet(1, INTS, 3);
        itemsAre("a new row for one that was LOST", x, 1, INTS, 0, 0, 0);
        lay(x, 1, INTS, 5, 6, 7);
        x.sheet(1, BYTES, 3);
        itemsAre("a new row of another FORM", x, 1, BYTES, 0, 0, 0);
    }

    // ---- FINDINGS

    static void findingsAreMinus10LessTheNumber() {
        says("FINDINGS (answers -10 less the number; they change nothing but count() 8)");
        SealedFile x = new SealedFile();
        due("0 before any", x.count(8), 0);
        due("1 NULL", x.lose(0), -11);
        due("count", x.count(8), 1);
        x.sheet(0, BYTES, 1);
        x.sheet(1, SHORTS, 1);
        due("what is no FINDING leaves it", x.count(8), 1);
        due("2 INDEX", x.lay(0, BYTES, 1, 0), -12);
        due("count", x.count(8), 2);
        due("3 CAST", x.lay(0, SHORTS, 0, 0), -13);
        due("count", x.count(8), 3);
        due("4 STORE", x.copy(0, 0, 1, 0, 1), -14);
        due("count", x.count(8), 4);
        due("5 SIZE", x.sheet(0, BYTES, -1), -15);
        due("count", x.count(8), 5);
        due("1 NULL again", x.lose(2), -11);
        due("the latest", x.count(8), 1);
    }

    static void nullIsThatTheSheetIsLost() {
        says("1 NULL: the SHEET is LOST");
        SealedFile x = new SealedFile();
        due("LOST", x.lay(2, INTS, 0, 1), NULL);
        x.sheet(2, INTS, 0);
        due("of no items, but not LOST", x.lay(2, INTS, 0, 1), INDEX);
        due("of no items, but not LOST", x.lose(2), 0);
        due("LOST", x.lay(2, INTS, 0, 1), NULL);
    }

    static void indexIsThatThereIsNoSuchItem() {
        says("2 INDEX: there is no such item");
        SealedFile x = new SealedFile();
        x.sheet(0, INTS, 3);
        due("item 0", x.lay(0, INTS, 0, 1), 1);
        due("item 2", x.lay(0, INTS, 2, 1), 1);
        for (int i : row(-1, 3, 59, 60, LEAST, MOST)) {
            due("lay " + i, x.lay(0, INTS, i, 1), INDEX);
            due("get " + i, x.get(0, INTS, i), LEAST);
        }
    }

    static void castIsThatItHasAnotherForm() {
        says("3 CAST: it has another FORM");
        SealedFile x = new SealedFile();
        for (int form = 0; form <= 2; form++) {
            x.sheet(form, form, 1);
        }
        for (int form = 0; form <= 2; form++) {
            for (int other = 0; other <= 2; other++) {
                due("FORM " + form + " as of " + other, x.lay(form, other, 0, 1), form == other ? 1 : CAST);
            }
        }
    }

    static void storeIsOfUnlikeForms() {
        says("4 STORE: unlike FORMS");
        SealedFile x = new SealedFile();
        for (int form = 0; form <= 2; form++) {
            x.sheet(form, form, 1);
        }
        for (int s = 0; s <= 2; s++) {
            for (int t = 0; t <= 2; t++) {
                due("copy of " + s + " to " + t, x.copy(s, 0, t, 0, 1), s == t ? 1 : STORE);
            }
            x.sheet(3, s, 1);
            due("alike, of another SHEET", x.copy(s, 0, 3, 0, 1), 1);
        }
    }

    static void sizeIsBelow0() {
        says("5 SIZE: below 0");
        SealedFile x = new SealedFile();
        due("0", x.sheet(0, BYTES, 0), 0);
        due("-1", x.sheet(0, BYTES, -1), SIZE);
        due("the least", x.sheet(0, BYTES, LEAST), SIZE);
        due("not LOST by it", x.lose(0), 0);
    }

    // ---- promise 23

    static void sheetMakesANewRow() {
        says("A SHEET is a new row of a FORM with n items: n.");
        SealedFile x = new SealedFile();
        for (int n : row(0, 1, 2, 59, 60)) {
            due("sheet of " + n, x.sheet(3, SHORTS, n), n);
            due("so many", x.lose(3), n);
        }
    }

    static void sheetRefuses() {
        says("BAD: SHEET, FORM, above 60; SIZE.");
        SealedFile x = new SealedFile();
        lay(x, 1, SHORTS, 8, 9);
        for (int s : NO_SHEET) {
            due("SHEET " + s, x.sheet(s, BYTES, 1), BAD);
            due("SHEET " + s + ", BAD goes ahead of SIZE", x.sheet(s, BYTES, -1), BAD);
        }
        for (int form : NO_FORM) {
            due("FORM " + form, x.sheet(1, form, 1), BAD);
            due("FORM " + form + ", BAD goes ahead of SIZE", x.sheet(1, form, -1), BAD);
        }
        for (int n : row(61, 62, MOST)) {
            due("above 60", x.sheet(1, BYTES, n), BAD);
        }
        due("BAD is no FINDING", x.count(8), 0);
        due("below 0", x.sheet(1, BYTES, -1), SIZE);
        due("SIZE is one", x.count(8), 5);
        itemsAre("as it was", x, 1, SHORTS, 8, 9);
    }

    // ---- promise 24

    static void loseTellsHowManyItHad() {
        says("It is LOST: how many items it had. BAD; NULL.");
        SealedFile x = new SealedFile();
        for (int n : row(0, 1, 60)) {
            x.sheet(2, INTS, n);
            due("it had " + n, x.lose(2), n);
            due("LOST", x.lose(2), NULL);
            due("LOST", x.get(2, INTS, 0), LEAST);
            due("NULL", x.count(8), 1);
        }
        for (int s : NO_SHEET) {
            due("SHEET " + s, x.lose(s), BAD);
        }
        x.sheet(0, INTS, 4);
        x.sheet(1, INTS, 5);
        due("that one alone", x.lose(0), 4);
        due("not the other", x.lose(1), 5);
    }

    // ---- promise 25

    static void layRefusesInOrder() {
        says("becomes v (the lowest bits that it has): 1. BAD; NULL; CAST; INDEX.");
        SealedFile x = new SealedFile();
        lay(x, 0, BYTES, 1, 2, 3);
        due("all four: SHEET", x.lay(4, 1, 9, 0), BAD);
        due("all four: FORM", x.lay(1, 3, 9, 0), BAD);
        due("BAD ahead of CAST and INDEX", x.lay(0, 3, 9, 0), BAD);
        due("BAD is no FINDING", x.count(8), 0);
        due("NULL ahead of CAST and INDEX", x.lay(1, SHORTS, 9, 0), NULL);
        due("CAST ahead of INDEX", x.lay(0, SHORTS, 9, 0), CAST);
        due("CAST ahead of INDEX, below 0", x.lay(0, INTS, -1, 0), CAST);
        due("INDEX", x.lay(0, BYTES, 3, 0), INDEX);
        due("INDEX below 0", x.lay(0, BYTES, -1, 0), INDEX);
        itemsAre("as they were", x, 0, BYTES, 1, 2, 3);
        due("the first", x.lay(0, BYTES, 0, 7), 1);
        due("the last", x.lay(0, BYTES, 2, 9), 1);
        itemsAre("those alone", x, 0, BYTES, 7, 2, 9);
    }

    // ---- promise 26

    static void getRefusesWithTheLeastInt() {
        says("BAD: the least int; so are NULL, CAST, INDEX (count() 8 tells).");
        SealedFile x = new SealedFile();
        for (int s : NO_SHEET) {
            due("SHEET " + s, x.get(s, BYTES, 0), LEAST);
        }
        for (int form : NO_FORM) {
            due("FORM " + form + ", BAD goes ahead of NULL", x.get(0, form, 0), LEAST);
        }
        due("BAD tells nothing", x.count(8), 0);
        due("NULL goes ahead of INDEX", x.get(0, BYTES, -1), LEAST);
        due("NULL", x.count(8), 1);
        lay(x, 0, SHORTS, 5, 6);
        due("CAST goes ahead of INDEX", x.get(0, BYTES, 2), LEAST);
        due("CAST", x.count(8), 3);
        due("behind the last", x.get(0, SHORTS, 2), LEAST);
        due("INDEX", x.count(8), 2);
        x.lose(1);
        due("below 0", x.get(0, SHORTS, -1), LEAST);
        due("INDEX", x.count(8), 2);
        x.lose(1);
        due("BAD FORM", x.get(0, 3, 0), LEAST);
        due("BAD leaves it", x.count(8), 1);
        itemsAre("the first, the last", x, 0, SHORTS, 5, 6);
        due("an answer leaves it", x.count(8), 1);
    }

    static void getAnswersTheLeastIntToo() {
        says("Item i of it.");
        SealedFile x = new SealedFile();
        lay(x, 0, INTS, LEAST, MOST);
        due("an item that is the least int", x.get(0, INTS, 0), LEAST);
        due("no FINDING", x.count(8), 0);
        due("the greatest", x.get(0, INTS, 1), MOST);
    }

    // ---- promise 27

    static void copyComesAsTheyWere() {
        says("come to SHEET t (perhaps s, as they were), from j on: 1");
        SealedFile x = new SealedFile();
        lay(x, 0, BYTES, 1, 2, 3, 4, 5);
        due("onwards by one", x.copy(0, 0, 0, 1, 4), 1);
        itemsAre("onwards", x, 0, BYTES, 1, 1, 2, 3, 4);
        lay(x, 0, BYTES, 1, 2, 3, 4, 5);
        due("back by one", x.copy(0, 1, 0, 0, 4), 1);
        itemsAre("back", x, 0, BYTES, 2, 3, 4, 5, 5);
        lay(x, 0, BYTES, 1, 2, 3, 4, 5);
        due("onto itself", x.copy(0, 0, 0, 0, 5), 1);
        itemsAre("onto itself", x, 0, BYTES, 1, 2, 3, 4, 5);
        lay(x, 1, BYTES, 9, 9);
        due("to another", x.copy(0, 3, 1, 0, 2), 1);
        itemsAre("another", x, 1, BYTES, 4, 5);
        itemsAre("those of s stay", x, 0, BYTES, 1, 2, 3, 4, 5);
        x.lay(0, BYTES, 3, 8);
        itemsAre("it is a copy", x, 1, BYTES, 4, 5);
    }

    static void copyOf60Items() {
        says("n items of SHEET s, from i on");
        SealedFile x = new SealedFile();
        x.sheet(0, SHORTS, 60);
        x.sheet(3, SHORTS, 60);
        x.lay(0, SHORTS, 0, -32768);
        x.lay(0, SHORTS, 59, 32767);
        due("all", x.copy(0, 0, 3, 0, 60), 1);
        due("the first", x.get(3, SHORTS, 0), -32768);
        due("the last", x.get(3, SHORTS, 59), 32767);
        due("61", x.copy(0, 0, 3, 0, 61), INDEX);
        due("the last to the first", x.copy(3, 59, 3, 0, 1), 1);
        due("the first", x.get(3, SHORTS, 0), 32767);
    }

    static void copyOfNone() {
        says("INDEX: below 0, not so many");
        SealedFile x = new SealedFile();
        x.sheet(0, INTS, 2);
        x.sheet(1, INTS, 3);
        x.sheet(2, INTS, 0);
        due("none", x.copy(0, 0, 1, 0, 0), 1);
        due("none, behind the last of both", x.copy(0, 2, 1, 3, 0), 1);
        due("none, one further in s", x.copy(0, 3, 1, 3, 0), INDEX);
        due("none, one further in t", x.copy(0, 2, 1, 4, 0), INDEX);
        due("none, of no items", x.copy(2, 0, 2, 0, 0), 1);
        due("one, of no items", x.copy(2, 0, 2, 0, 1), INDEX);
    }

    static void copyOfTooMany() {
        says("INDEX: below 0, not so many");
        SealedFile x = new SealedFile();
        lay(x, 0, INTS, 1, 2);
        lay(x, 1, INTS, 7, 8, 9);
        due("two of two", x.copy(0, 0, 1, 1, 2), 1);
        due("three of two", x.copy(0, 0, 1, 0, 3), INDEX);
        due("two of two, from 1 on", x.copy(0, 1, 1, 0, 2), INDEX);
        due("two to two of three", x.copy(0, 0, 1, 2, 2), INDEX);
        due("i below 0", x.copy(0, -1, 1, 0, 1), INDEX);
        due("j below 0", x.copy(0, 0, 1, -1, 1), INDEX);
        due("n below 0", x.copy(0, 0, 1, 0, -1), INDEX);
        due("n below 0, i and j within", x.copy(0, 1, 1, 1, -1), INDEX);
        int[][] wraps = {{MOST, 0, 1}, {0, MOST, 1}, {1, 1, MOST}, {0, 0, MOST}, {MOST, MOST, MOST}, {LEAST, 0, 1},
            {0, LEAST, 1}, {0, 0, LEAST}, {LEAST, LEAST, LEAST}, {MOST, 0, LEAST}, {2, 3, LEAST}, {LEAST, 0, MOST}};
        for (int[] w : wraps) {
            due("a sum that wraps: " + w[0] + ", " + w[1] + ", " + w[2], x.copy(0, w[0], 1, w[1], w[2]), INDEX);
        }
        itemsAre("s as it was", x, 0, INTS, 1, 2);
        itemsAre("t as it was", x, 1, INTS, 7, 1, 2);
    }

    static void copyRefusesInOrder() {
        says("BAD: the SHEETS; NULL: s, t; STORE; INDEX");
        SealedFile x = new SealedFile();
        lay(x, 0, INTS, 1);
        lay(x, 1, BYTES, 2);
        for (int s : NO_SHEET) {
            due("s " + s + ", ahead of NULL and INDEX", x.copy(s, -1, 3, -1, -1), BAD);
            due("t " + s + ", ahead of NULL and INDEX", x.copy(3, -1, s, -1, -1), BAD);
            due("t " + s + ", ahead of INDEX", x.copy(0, -1, s, -1, -1), BAD);
        }
        due("BAD is no FINDING", x.count(8), 0);
        due("s LOST, ahead of INDEX", x.copy(3, -1, 0, 0, 1), NULL);
        due("t LOST, ahead of INDEX", x.copy(0, -1, 3, 0, 1), NULL);
        due("both LOST", x.copy(2, 0, 3, 0, 0), NULL);
        due("STORE ahead of INDEX", x.copy(0, -1, 1, 0, 1), STORE);
        due("STORE of none", x.copy(0, 0, 1, 0, 0), STORE);
        due("INDEX", x.copy(0, -1, 0, 0, 1), INDEX);
        itemsAre("as it was", x, 1, BYTES, 2);
    }

    // ---- promise 28

    static void tellTakes0To400() {
        says("BYTES of THE FILE, from one on (0 to 400)");
        SealedFile x = fileOf(row(1, PAGE, 2));
        x.sheet(0, INTS, 3);
        due("from 0", x.tell(0, 0), 3);
        due("from 400", x.tell(400, 0), 0);
        for (int from : row(-1, -2, 401, LEAST, MOST)) {
            due("from " + from, x.tell(from, 0), BAD);
            due("from " + from + ", BAD goes ahead of NULL", x.tell(from, 1), BAD);
        }
        itemsAre("from 0", x, 0, INTS, 79, 1, 0);
    }

    static void tellTellsAsManyAsThereAre() {
        says("as many as there are items, and BYTES: how many");
        SealedFile x = fileOf(row(1, PAGE, 513));
        int[][] told = {
            // from, items, how many of five BYTES
            {0, 0, 0}, {0, 1, 1}, {0, 4, 4}, {0, 5, 5}, {0, 6, 5}, {0, 60, 5}, {4, 1, 1}, {4, 2, 1}, {5, 1, 0}, {6, 1, 0}, {1, 4, 4}};
        for (int[] t : told) {
            x.sheet(0, INTS, t[1]);
            due("from " + t[0] + " to " + t[1] + " items", x.tell(t[0], 0), t[2]);
        }
        lay(x, 0, INTS, -7, -7, -7, -7);
        due("from 2", x.tell(2, 0), 3);
        itemsAre("others stay", x, 0, INTS, 0, 2, 1, -7);
        due("none", x.tell(5, 0), 0);
        itemsAre("all stay", x, 0, INTS, 0, 2, 1, -7);
    }

    static void tellOfAFullFile() {
        says("as many as there are items, and BYTES");
        SealedFile x = new SealedFile();
        closeUpTo(x, 7);
        fillUpTo(x, 40);
        x.sheet(0, BYTES, 60);
        due("60 of 214", x.tell(0, 0), 60);
        due("the last 60", x.tell(154, 0), 60);
        due("the last 59", x.tell(155, 0), 59);
        due("the last one", x.tell(213, 0), 1);
        due("it is", x.get(0, BYTES, 0), 7);
        due("none", x.tell(214, 0), 0);
    }

    static void tellToBytes() {
        says("come to a SHEET from item 0 on");
        SealedFile x = fileOf(row(1, PAGE, 127 * 256 + 128), row(2, GONE, 65535));
        x.sheet(0, BYTES, 12);
        x.sheet(1, SHORTS, 12);
        due("to bytes", x.tell(0, 0), 12);
        due("to shorts", x.tell(0, 1), 12);
        itemsAre("bytes", x, 0, BYTES, 79, 1, 0, 127, -128, 0, 0, 79, 2, 5, -1, -1);
        itemsAre("shorts", x, 1, SHORTS, 79, 1, 0, 127, 128, 0, 0, 79, 2, 5, 255, 255);
    }

    static void tellRefuses() {
        says("and BYTES: how many. BAD; NULL.");
        SealedFile x = new SealedFile();
        for (int s : NO_SHEET) {
            due("SHEET " + s, x.tell(0, s), BAD);
        }
        due("BAD is no FINDING", x.count(8), 0);
        due("LOST", x.tell(0, 0), NULL);
        due("LOST, behind all", x.tell(400, 0), NULL);
        due("NULL", x.count(8), 1);
        x.sheet(0, BYTES, 2);
        due("no BYTES", x.tell(0, 0), 0);
    }

    // ---- promise 29

    static void countTells0To8() {
        says("0 WRITES, 1 how many REVISIONS are CLOSED, 2 BYTES, 3 SEALS (of CLOSED REVISIONS), 4 how many HOLD, 5 THINGS that are THERE behind the open REVISION, 6 how many are SHADOWED, of all REVISIONS together, 7 ALLOWED in the open one, 8 the number of the latest FINDING (0 before any). BAD.");
        SealedFile x = new SealedFile();
        int[] first = {0, 0, 0, 0, 0, 0, 0, 3, 0};
        for (int what = 0; what <= 8; what++) {
            due("a new object, " + what, x.count(what), first[what]);
        }
        for (int what : row(-1, 9, 10, LEAST, MOST)) {
            due("what " + what, x.count(what), BAD);
        }
        x = fileOf(row(0, NOTE, 1, 0, NOTE, 2, 8, SEAL, 2, 15, PAGE, 1), row(1, PAGE, 1, 9, SEAL, 1), row(15, GONE, 0, 7, SEAL, 0));
        x.sheet(0, BYTES, -1);
        int[] want = {8, 2, 44, 2, 0, 5, 1, 1, 5};
        for (int what = 0; what <= 8; what++) {
            due("count " + what, x.count(what), want[what]);
        }
    }

    static void countOfAFullFile() {
        says("0 WRITES, 1 how many REVISIONS are CLOSED, 2 BYTES, 3 SEALS (of CLOSED REVISIONS), 4 how many HOLD");
        SealedFile x = new SealedFile();
        for (int n = 1; n <= 40; n++) {
            due("put", x.put(9, SEAL, 2), n);
            if (n % 5 == 0 && n < 40) {
                due("close", x.close(), n / 5);
            }
        }
        int[] want = {40, 7, 214, 35, 35, 1, 0, 2, 0};
        for (int what = 0; what <= 8; what++) {
            due("count " + what, x.count(what), want[what]);
        }
    }

    static void countOfThingsThere() {
        says("5 THINGS that are THERE behind the open REVISION");
        SealedFile x = new SealedFile();
        for (int t = 0; t < 16; t++) {
            due(t + " are THERE", x.count(5), t);
            x.put(t, PAGE, 0);
        }
        due("all", x.count(5), 16);
        x.close();
        due("all, of a CLOSED one", x.count(5), 16);
        for (int t = 0; t < 16; t++) {
            x.put(t, GONE, 0);
            due("GONE up to " + t, x.count(5), 15 - t);
        }
    }

    static void countOfShadowedThings() {
        says("6 how many are SHADOWED, of all REVISIONS together");
        SealedFile x = fileOf(row(0, PAGE, 1, 0, PAGE, 2, 0, PAGE, 3), row(0, PAGE, 1, 0, PAGE, 2, 15, PAGE, 1));
        due("one THING in two REVISIONS", x.count(6), 2);
        x.put(15, PAGE, 2);
        due("one more", x.count(6), 3);
        x.undo();
        due("undone", x.count(6), 2);
    }

    static void countOfAllowed() {
        says("7 ALLOWED in the open one");
        SealedFile x = fileOf(row(9, SEAL, 1));
        due("open", x.count(7), 3);
        x.close();
        due("ahead of the open one", x.count(7), 1);
        x.put(8, SEAL, 0);
        due("in the open one", x.count(7), 1);
        x.close();
        due("ahead of the open one", x.count(7), 0);
    }

    static void countOfTheLatestFinding() {
        says("8 the number of the latest FINDING (0 before any)");
        SealedFile x = new SealedFile();
        x.put(16, PAGE, 0);
        x.close();
        x.undo();
        x.lose(4);
        due("0 before any, BAD and NOT are none", x.count(8), 0);
        x.lose(0);
        due("NULL", x.count(8), 1);
        fillUpTo(x, 40);
        due("FULL", x.put(0, PAGE, 0), FULL);
        due("FULL is none", x.count(8), 1);
        x.sheet(0, BYTES, -1);
        due("the latest", x.count(8), 5);
        x.digest();
        due("digest finds none", x.count(8), 5);
    }

    // ---- promise 30

    private static long grow(long h, long... answers) {
        long grown = h;
        for (long a : answers) {
            grown = 31 * grown + a;
        }
        return grown;
    }

    static void digestOfANewObject() {
        says("h is 17; h becomes 31 h and each of: count() 0 to 7");
        long h = grow(17, 0, 0, 0, 0, 0, 0, 0, 3);
        h = grow(h, 0, 0, 0, 0, 0, 3);
        for (int r = 1; r <= 7; r++) {
            h = grow(h, BAD, BAD, BAD, BAD, BAD, BAD);
        }
        for (int t = 0; t <= 15; t++) {
            h = grow(h, NONE, BAD, NONE, NONE, NONE);
        }
        for (int i = 0; i <= 30; i++) {
            h = grow(h, BAD);
        }
        h = grow(h, 0, NONE, NONE, NONE, 0, 0, NONE, NONE);
        due("no WRITES", new SealedFile().digest(), h);
    }

    static void digestOfOneWrite() {
        says("of WRITES write() 0 to 4, covers() 0 to 3, covered(), number() 0, 1, flaws(), judge() 0 to 3, of it and 0 to 4 change(it, that, 0 to 2)");
        long h = grow(17, 1, 0, 5, 0, 0, 1, 0, 3);
        h = grow(h, 0, 1, 0, 5, 0, 3);
        for (int r = 1; r <= 7; r++) {
            h = grow(h, BAD, BAD, BAD, BAD, BAD, BAD);
        }
        for (int t = 0; t <= 15; t++) {
            h = t == 3 ? grow(h, PAGE, BAD, PAGE, 258, 0) : grow(h, NONE, BAD, NONE, NONE, NONE);
        }
        h = grow(h, 3, PAGE, 258, 0, 0, NOT, NOT, NOT, NOT, NOT, LEAST, LEAST, NOT, NOT, NOT, NOT, NOT);
        for (int k = 0; k < 15; k++) {
            h = grow(h, NOT);
        }
        h = grow(h, 79, 3, 0, 1, 2);
        for (int i = 5; i <= 30; i++) {
            h = grow(h, BAD);
        }
        h = grow(h, 5, NONE, NONE, NONE, 0, 0, 0, 0);
        SealedFile x = fileOf(row(3, PAGE, 258));
        due("one WRITE", x.digest(), h);
        x.sheet(0, INTS, 3);
        x.sheet(1, INTS, -1);
        due("neither SHEETS nor FINDINGS", x.digest(), h);
    }

    static void digestOfTheThirdRevision() {
        says("thing(it, 0, 0), thing(it, 2, 1), of the open REVISION thing(it, that, 0 to 2)");
        SealedFile two = fileOf(row(9, SEAL, 2), row(1, NOTE, 1));
        SealedFile three = fileOf(row(9, SEAL, 2), row(1, NOTE, 1), row(1, NOTE, 2));
        SealedFile eight = fileOf(row(9, SEAL, 2), row(1, NOTE, 1), row(1, NOTE, 2));
        closeUpTo(eight, 7);
        eight.put(1, NOTE, 3);
        for (SealedFile x : new SealedFile[] {two, three, eight}) {
            due("as it is told", x.digest(), digestOf(x));
        }
    }

    static void digestHasBothNumbers() {
        says("covered(), number() 0, 1, flaws()");
        SealedFile x = fileOf(row(1, PAGE, 1, 9, SEAL, 1), row());
        x.alter(0, 2);
        due("as it is and as it was KEPT", x.number(1, 0) == x.number(1, 1) ? SAME : 1, 1);
        due("in this order", x.digest(), digestOf(x));
    }

    static void digestHasRevisions0To7() {
        says("of REVISIONS 0 to 7 revision() 0 to 3, shadows(), allowed()");
        SealedFile x = fileOf(row(9, SEAL, 1), row());
        closeUpTo(x, 6);
        due("the seventh is open", x.digest(), digestOf(x));
        x = fileOf(row(9, SEAL, 1), row());
        closeUpTo(x, 7);
        due("the eighth is open", x.digest(), digestOf(x));
    }

    static void digestHasBytes0To30() {
        says("of 0 to 30 bytes(); bytes(NONE), first() 0 to 2, holding() 0, 1, better() 0, 1");
        SealedFile x = fileOf(row(1, PAGE, 1, 2, PAGE, 2, 3, PAGE, 3, 4, PAGE, 4, 5, PAGE, 5, 6, PAGE, 6));
        due("30 BYTES", x.digest(), digestOf(x));
        x = fileOf(row(1, PAGE, 1, 2, PAGE, 2, 3, PAGE, 3, 4, PAGE, 4, 5, PAGE, 5, 6, PAGE, 6, 7, PAGE, 7));
        due("35 BYTES", x.digest(), digestOf(x));
        x = fileOf(row(1, FIELD, 1, 9, SEAL, 0), row(8, SEAL, 1), row(1, FIELD, 2, 2, NOTE, 1));
        due("FIRST, HOLDING, BETTER", x.digest(), digestOf(x));
    }

    static void digestWraps() {
        says("as longs that wrap");
        BigInteger h = BigInteger.valueOf(17);
        int[] ahead = {0, 0, 0, 0, 0, 0, 0, 3, 0, 0, 0, 0, 0, 3};
        for (int a : ahead) {
            h = h.multiply(BigInteger.valueOf(31)).add(BigInteger.valueOf(a));
        }
        due("it has wrapped by then", h.bitLength() > 64 ? 1 : 0, 1);
        long wrapped = h.longValue();
        for (int n = 0; n < 6 * 7; n++) {
            wrapped = grow(wrapped, BAD);
        }
        for (int t = 0; t <= 15; t++) {
            wrapped = grow(wrapped, NONE, BAD, NONE, NONE, NONE);
        }
        for (int i = 0; i <= 30; i++) {
            wrapped = grow(wrapped, BAD);
        }
        long due = grow(wrapped, 0, NONE, NONE, NONE, 0, 0, NONE, NONE);
        due("a new object", new SealedFile().digest(), due);
        due("it is no int", due == (int) due ? 1 : 0, 0);
    }

    private static long digestOf(SealedFile x) {
        long h = 17;
        int writes = x.count(0), open = x.count(1);
        for (int what = 0; what <= 7; what++) h = grow(h, x.count(what));
        for (int r = 0; r <= 7; r++) {
            h = grow(h, x.revision(r, 0), x.revision(r, 1), x.revision(r, 2), x.revision(r, 3), x.shadows(r), x.allowed(r));
        }
        for (int t = 0; t <= 15; t++) {
            h = grow(h, x.thing(t, 0, 0), x.thing(t, 2, 1), x.thing(t, open, 0), x.thing(t, open, 1), x.thing(t, open, 2));
        }
        for (int w = 0; w < writes; w++) {
            for (int what = 0; what <= 4; what++) h = grow(h, x.write(w, what));
            for (int what = 0; what <= 3; what++) h = grow(h, x.covers(w, what));
            h = grow(h, x.covered(w), x.number(w, 0), x.number(w, 1), x.flaws(w));
            for (int what = 0; what <= 3; what++) h = grow(h, x.judge(w, what));
            for (int i = 0; i <= 4; i++) h = grow(h, x.change(w, i, 0), x.change(w, i, 1), x.change(w, i, 2));
        }
        for (int i = 0; i <= 30; i++) h = grow(h, x.bytes(i));
        return grow(h, x.bytes(NONE), x.first(0), x.first(1), x.first(2), x.holding(0), x.holding(1), x.better(0), x.better(1));
    }
}
