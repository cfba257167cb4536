import java.util.Arrays;

/**
 * A file of revisions with seals in it: what the seals cover, what later
 * revisions change, and whether the seals still hold. The words (WRITE,
 * REVISION, SEAL, ..) are those of the document.
 */
public final class SealedFile {
    public static final int NONE = -1, BAD = -2, NOT = -3, FULL = -4;

    private static final int MOST_WRITES = 40, MOST_REVISIONS = 8, THINGS = 16;
    private static final int MOST_VALUE = 65535, MOST_LEVEL = 2, NO_LIMIT = 3;
    private static final int FIELD = 1, NOTE = 2, LIST = 3, SEAL = 4, GONE = 5;
    private static final int FILLING = 1, REMARK = 2, TAMPERING = 3;

    private static final int WRITE_BYTES = 5, CLOSING_BYTES = 2, WRITE_MARK = 79, VALUE_OFFSET = 3;
    private static final int MOST_BYTES = MOST_WRITES * WRITE_BYTES + MOST_REVISIONS * CLOSING_BYTES;
    private static final int EDGES = 4, MOST_EDGE = 400, MOST_CHANGE = 99;
    private static final int FLAW_START = 1, FLAW_GAP = 2, FLAW_END = 4, FLAW_NUMBER = 8;

    private static final int SHEETS = 4, FORMS = 3, MOST_ITEMS = 60, ITEMS_OF_WRITE = 3;
    private static final int BYTES_FORM = 0, SHORTS_FORM = 1;
    private static final int NULL = 1, INDEX = 2, CAST = 3, STORE = 4, SIZE = 5;
    private static final int LEAST_INT = -2147483648;

    private final Writes writes = new Writes();
    private final ByteFile file = new ByteFile();
    private final Covers ranges = new Covers(writes, file);
    private final History history = new History(writes);
    // kept beside the real one, so that better() makes no rows of its own
    private final History trial = new History(writes);
    private final Sheet[] sheets = new Sheet[SHEETS];
    private int finding = 0;

    public SealedFile() {
        for (int s = 0; s < SHEETS; s++) {
            sheets[s] = new Sheet();
        }
        history.retell(NONE);
    }

    // ---- writes, revisions

    public int put(int thing, int kind, int value) {
        int answer = takeWrite(thing, kind, value);
        reckon();
        return answer;
    }

    public int close() {
        if (writes.openIsEmpty()) {
            return NOT;
        }
        if (writes.closed >= MOST_REVISIONS - 1) {
            return FULL;
        }
        file.appendClosing(writes.closed);
        writes.openNext();
        ranges.keepNumbers(writes.closed - 1);
        reckon();
        return writes.closed;
    }

    public int undo() {
        if (writes.openIsEmpty()) {
            return NOT;
        }
        writes.size--;
        file.dropWrite();
        reckon();
        return writes.size;
    }

    public int cover(int write, int a, int b, int c, int d) {
        boolean inOrder = 0 <= a && a <= b && b <= c && c <= d && d <= MOST_EDGE;
        if (!writes.has(write) || !inOrder) {
            return BAD;
        }
        if (!writes.isSeal(write) || writes.isClosed(write)) {
            return NOT;
        }
        ranges.keepEdges(write, a, b, c, d);
        return 1;
    }

    public int alter(int write, int value) {
        if (!writes.has(write) || !mayBeValue(writes.kindOf[write], value)) {
            return BAD;
        }
        int old = writes.valueOf[write];
        writes.valueOf[write] = value;
        file.layValue(writes.firstByte(write) + VALUE_OFFSET, value);
        reckon();
        return old;
    }

    public int read(int s) {
        if (!isSheet(s)) {
            return BAD;
        }
        Sheet sheet = sheets[s];
        if (sheet.lost) {
            return find(NULL);
        }
        int taken = 0;
        for (int i = 0; i + ITEMS_OF_WRITE <= sheet.size; i += ITEMS_OF_WRITE) {
            if (takeWrite(sheet.items[i], sheet.items[i + 1], sheet.items[i + 2]) < 0) {
                break;
            }
            taken++;
        }
        reckon();
        return taken;
    }

    public int write(int write, int what) {
        if (!writes.has(write)) {
            return BAD;
        }
        switch (what) {
            case 0: return writes.thingOf[write];
            case 1: return writes.kindOf[write];
            case 2: return writes.valueOf[write];
            case 3: return writes.home[write];
            case 4: return writes.firstByte(write);
            default: return BAD;
        }
    }

    public int revision(int revision, int what) {
        if (!writes.hasRevision(revision)) {
            return BAD;
        }
        switch (what) {
            case 0: return writes.firstOf[revision];
            case 1: return writes.behind(revision) - writes.firstOf[revision];
            case 2: return writes.firstByteOf(revision);
            case 3: return writes.behindBytesOf(revision);
            default: return BAD;
        }
    }

    public int bytes(int i) {
        if (i == NONE) {
            return file.size;
        }
        return file.has(i) ? file.items[i] : BAD;
    }

    // ---- things

    public int thing(int thing, int revision, int what) {
        if (!isThing(thing) || !writes.hasRevision(revision) || what < 0 || what > 2) {
            return BAD;
        }
        int write = history.latestOf(revision, thing);
        if (writes.kindOrGone(write) == GONE) {
            return NONE;
        }
        switch (what) {
            case 0: return writes.kindOf[write];
            case 1: return writes.valueOf[write];
            default: return write;
        }
    }

    public int shadows(int revision) {
        return writes.hasRevision(revision) ? history.shadowed[revision] : BAD;
    }

    // ---- seals

    public int covers(int write, int what) {
        if (!writes.has(write) || what < 0 || what >= EDGES) {
            return BAD;
        }
        return writes.isSeal(write) ? ranges.edge(write, what) : NOT;
    }

    public int covered(int write) {
        if (!writes.has(write)) {
            return BAD;
        }
        return writes.isSeal(write) ? ranges.bytesWithin(write) : NOT;
    }

    public int number(int write, int what) {
        if (!writes.has(write) || what < 0 || what > 1 || !writes.isClosedSeal(write)) {
            return LEAST_INT;
        }
        return what == 0 ? ranges.numberIs[write] : ranges.kept[write];
    }

    public int flaws(int write) {
        if (!writes.has(write)) {
            return BAD;
        }
        return writes.isClosedSeal(write) ? ranges.flawsAre[write] : NOT;
    }

    public int judge(int write, int what) {
        if (!writes.has(write) || what < 0 || what > 3) {
            return BAD;
        }
        if (!writes.isClosedSeal(write)) {
            return NOT;
        }
        int revision = writes.home[write];
        switch (what) {
            case 0: return history.verdict[revision];
            case 1: return history.changesBehind(revision);
            case 2: return history.tamperings[revision];
            default: return holds(write, history) ? 1 : 0;
        }
    }

    public int change(int write, int i, int what) {
        if (!writes.has(write) || i < 0 || i > MOST_CHANGE || what < 0 || what > 2) {
            return BAD;
        }
        if (!writes.isClosedSeal(write)) {
            return NOT;
        }
        int revision = writes.home[write];
        if (i >= history.changesBehind(revision)) {
            return NONE;
        }
        int k = history.changesUpTo[revision] + i;
        switch (what) {
            case 0: return history.changeRevision[k];
            case 1: return history.changeThing[k];
            default: return history.sortOf(k, revision);
        }
    }

    // ---- the file

    public int allowed(int revision) {
        if (!writes.hasRevision(revision)) {
            return BAD;
        }
        int least = NO_LIMIT;
        for (int w = 0; w < writes.firstOf[revision]; w++) {
            if (writes.isSeal(w)) {
                least = Math.min(least, writes.valueOf[w]);
            }
        }
        return least;
    }

    public int first(int what) {
        if (what < 0 || what > 2) {
            return BAD;
        }
        for (int k = 0; k < history.changes; k++) {
            int seal = firstSealAgainst(k);
            if (seal != NONE) {
                switch (what) {
                    case 0: return history.changeRevision[k];
                    case 1: return history.changeThing[k];
                    default: return seal;
                }
            }
        }
        return NONE;
    }

    public int holding(int what) {
        switch (what) {
            case 0: return howManyHold(history, NONE);
            case 1: return howManyClosedSeals();
            default: return BAD;
        }
    }

    public int better(int what) {
        if (what < 0 || what > 1) {
            return BAD;
        }
        int best = NONE;
        int most = NONE;
        for (int w = 0; w < writes.size; w++) {
            trial.retell(w);
            int holding = howManyHold(trial, w);
            if (holding > most) {
                best = w;
                most = holding;
            }
        }
        return what == 0 ? best : most;
    }

    // ---- sheets

    public int sheet(int s, int form, int n) {
        if (!isSheet(s) || !isForm(form) || n > MOST_ITEMS) {
            return BAD;
        }
        if (n < 0) {
            return find(SIZE);
        }
        sheets[s].renew(form, n);
        return n;
    }

    public int lose(int s) {
        if (!isSheet(s)) {
            return BAD;
        }
        if (sheets[s].lost) {
            return find(NULL);
        }
        sheets[s].lost = true;
        return sheets[s].size;
    }

    public int lay(int s, int form, int i, int v) {
        if (!isSheet(s) || !isForm(form)) {
            return BAD;
        }
        int wrong = sheets[s].findingAt(form, i);
        if (wrong != 0) {
            return find(wrong);
        }
        sheets[s].layItem(i, v);
        return 1;
    }

    public int get(int s, int form, int i) {
        if (!isSheet(s) || !isForm(form)) {
            return LEAST_INT;
        }
        int wrong = sheets[s].findingAt(form, i);
        if (wrong != 0) {
            find(wrong);
            return LEAST_INT;
        }
        return sheets[s].items[i];
    }

    public int copy(int s, int i, int t, int j, int n) {
        if (!isSheet(s) || !isSheet(t)) {
            return BAD;
        }
        Sheet from = sheets[s];
        Sheet to = sheets[t];
        if (from.lost || to.lost) {
            return find(NULL);
        }
        if (from.form != to.form) {
            return find(STORE);
        }
        if (!from.hasItems(i, n) || !to.hasItems(j, n)) {
            return find(INDEX);
        }
        System.arraycopy(from.items, i, to.items, j, n);
        return 1;
    }

    public int tell(int from, int s) {
        if (from < 0 || from > MOST_EDGE || !isSheet(s)) {
            return BAD;
        }
        Sheet sheet = sheets[s];
        if (sheet.lost) {
            return find(NULL);
        }
        int told = Math.min(sheet.size, Math.max(0, file.size - from));
        for (int i = 0; i < told; i++) {
            sheet.layItem(i, file.items[from + i]);
        }
        return told;
    }

    public int count(int what) {
        switch (what) {
            case 0: return writes.size;
            case 1: return writes.closed;
            case 2: return file.size;
            case 3: return howManyClosedSeals();
            case 4: return howManyHold(history, NONE);
            case 5: return Integer.bitCount(history.there[writes.closed]);
            case 6: return howManyShadowed();
            case 7: return allowed(writes.closed);
            case 8: return finding;
            default: return BAD;
        }
    }

    public long digest() {
        long h = 17;
        for (int what = 0; what <= 7; what++) {
            h = 31 * h + count(what);
        }
        for (int r = 0; r < MOST_REVISIONS; r++) {
            h = digestRevision(h, r);
        }
        for (int t = 0; t < THINGS; t++) {
            h = digestThing(h, t);
        }
        for (int w = 0; w < writes.size; w++) {
            h = digestChanges(digestWrite(h, w), w);
        }
        for (int i = 0; i <= 30; i++) {
            h = 31 * h + bytes(i);
        }
        return digestFile(h);
    }

    private long digestRevision(long before, int r) {
        long h = before;
        for (int what = 0; what <= 3; what++) {
            h = 31 * h + revision(r, what);
        }
        h = 31 * h + shadows(r);
        return 31 * h + allowed(r);
    }

    private long digestThing(long before, int t) {
        long h = 31 * before + thing(t, 0, 0);
        h = 31 * h + thing(t, 2, 1);
        for (int what = 0; what <= 2; what++) {
            h = 31 * h + thing(t, writes.closed, what);
        }
        return h;
    }

    private long digestWrite(long before, int w) {
        long h = before;
        for (int what = 0; what <= 4; what++) {
            h = 31 * h + write(w, what);
        }
        for (int what = 0; what <= 3; what++) {
            h = 31 * h + covers(w, what);
        }
        h = 31 * h + covered(w);
        h = 31 * h + number(w, 0);
        h = 31 * h + number(w, 1);
        h = 31 * h + flaws(w);
        for (int what = 0; what <= 3; what++) {
            h = 31 * h + judge(w, what);
        }
        return h;
    }

    private long digestChanges(long before, int w) {
        long h = before;
        for (int i = 0; i <= 4; i++) {
            for (int what = 0; what <= 2; what++) {
                h = 31 * h + change(w, i, what);
            }
        }
        return h;
    }

    private long digestFile(long before) {
        long h = 31 * before + bytes(NONE);
        for (int what = 0; what <= 2; what++) {
            h = 31 * h + first(what);
        }
        h = 31 * h + holding(0);
        h = 31 * h + holding(1);
        h = 31 * h + better(0);
        return 31 * h + better(1);
    }

    private static boolean isThing(int thing) {
        return thing >= 0 && thing < THINGS;
    }

    private static boolean mayBeValue(int kind, int value) {
        return value >= 0 && value <= (kind == SEAL ? MOST_LEVEL : MOST_VALUE);
    }

    private static boolean mayBeWrite(int thing, int kind, int value) {
        return isThing(thing) && kind >= 0 && kind <= GONE && mayBeValue(kind, value);
    }

    private static boolean isSheet(int s) {
        return s >= 0 && s < SHEETS;
    }

    private static boolean isForm(int form) {
        return form >= 0 && form < FORMS;
    }

    private int find(int number) {
        finding = number;
        return -10 - number;
    }

    private int takeWrite(int thing, int kind, int value) {
        if (!mayBeWrite(thing, kind, value)) {
            return BAD;
        }
        if (writes.size >= MOST_WRITES) {
            return FULL;
        }
        ranges.forget(writes.size);
        writes.append(thing, kind, value);
        file.appendWrite(thing, kind, value);
        return writes.size;
    }

    // after each change, so that what is asked is only looked up
    private void reckon() {
        ranges.reckonAll();
        history.retell(NONE);
    }

    // FLAWS are of the BYTES, which stay as they are whatever the history leaves out
    private boolean holds(int seal, History told) {
        return told.verdict[writes.home[seal]] <= writes.valueOf[seal] && ranges.flawsAre[seal] == 0;
    }

    private int howManyHold(History told, int left) {
        int holding = 0;
        for (int w = 0; w < writes.size; w++) {
            if (w != left && writes.isClosedSeal(w) && holds(w, told)) {
                holding++;
            }
        }
        return holding;
    }

    private int howManyClosedSeals() {
        int seals = 0;
        for (int w = 0; w < writes.size; w++) {
            if (writes.isClosedSeal(w)) {
                seals++;
            }
        }
        return seals;
    }

    private int howManyShadowed() {
        int shadowed = 0;
        for (int r = 0; r <= writes.closed; r++) {
            shadowed += Integer.bitCount(history.shadowed[r]);
        }
        return shadowed;
    }

    private int firstSealAgainst(int k) {
        int behind = writes.firstOf[history.changeRevision[k]];
        for (int w = 0; w < behind; w++) {
            if (writes.isSeal(w) && history.sortOf(k, writes.home[w]) > writes.valueOf[w]) {
                return w;
            }
        }
        return NONE;
    }

    /** The WRITES, and which of them belong to which REVISION. */
    private static final class Writes {
        final int[] thingOf = new int[MOST_WRITES];
        final int[] kindOf = new int[MOST_WRITES];
        final int[] valueOf = new int[MOST_WRITES];
        final int[] home = new int[MOST_WRITES];
        final int[] firstOf = new int[MOST_REVISIONS];
        int size = 0;
        int closed = 0;

        void append(int thing, int kind, int value) {
            thingOf[size] = thing;
            kindOf[size] = kind;
            valueOf[size] = value;
            home[size] = closed;
            size++;
        }

        void openNext() {
            closed++;
            firstOf[closed] = size;
        }

        boolean has(int write) {
            return write >= 0 && write < size;
        }

        boolean hasRevision(int revision) {
            return revision >= 0 && revision <= closed;
        }

        boolean openIsEmpty() {
            return firstOf[closed] >= size;
        }

        boolean isSeal(int write) {
            return kindOf[write] == SEAL;
        }

        boolean isClosed(int write) {
            return home[write] < closed;
        }

        boolean isClosedSeal(int write) {
            return isSeal(write) && isClosed(write);
        }

        boolean unlike(int one, int other) {
            return kindOf[one] != kindOf[other] || valueOf[one] != valueOf[other];
        }

        // no WRITE at all (NONE) leaves a THING just as one of KIND GONE does
        int kindOrGone(int write) {
            return write >= 0 && write < size ? kindOf[write] : GONE;
        }

        int behind(int revision) {
            return revision < closed ? firstOf[revision + 1] : size;
        }

        int firstByte(int write) {
            return WRITE_BYTES * write + CLOSING_BYTES * home[write];
        }

        int firstByteOf(int revision) {
            return WRITE_BYTES * firstOf[revision] + CLOSING_BYTES * revision;
        }

        int behindBytesOf(int revision) {
            return revision < closed
                ? WRITE_BYTES * firstOf[revision + 1] + CLOSING_BYTES * (revision + 1)
                : WRITE_BYTES * size + CLOSING_BYTES * revision;
        }
    }

    /** THE FILE: all BYTES, as they are now. */
    private static final class ByteFile {
        final int[] items = new int[MOST_BYTES];
        int size = 0;

        boolean has(int i) {
            return i >= 0 && i < size;
        }

        void appendWrite(int thing, int kind, int value) {
            items[size] = WRITE_MARK;
            items[size + 1] = thing;
            items[size + 2] = kind;
            layValue(size + VALUE_OFFSET, value);
            size += WRITE_BYTES;
        }

        void appendClosing(int revision) {
            items[size] = 0;
            items[size + 1] = revision;
            size += CLOSING_BYTES;
        }

        void dropWrite() {
            size -= WRITE_BYTES;
        }

        void layValue(int i, int value) {
            items[i] = value / 256;
            items[i + 1] = value % 256;
        }

        int lengthWithin(int from, int to) {
            return Math.max(0, Math.min(to, size) - from);
        }

        int numberOver(int before, int from, int to) {
            int h = before;
            int end = Math.min(to, size);
            for (int i = from; i < end; i++) {
                h = 31 * h + items[i];
            }
            return h;
        }
    }

    /** What each SEAL COVERS, and THE NUMBER of it as it was KEPT. */
    private static final class Covers {
        private final Writes writes;
        private final ByteFile file;
        private final boolean[] told = new boolean[MOST_WRITES];
        private final int[] edges = new int[MOST_WRITES * EDGES];
        final int[] kept = new int[MOST_WRITES];
        // of SEALS of CLOSED REVISIONS alone, as they are since the latest change
        final int[] numberIs = new int[MOST_WRITES];
        final int[] flawsAre = new int[MOST_WRITES];

        Covers(Writes writes, ByteFile file) {
            this.writes = writes;
            this.file = file;
        }

        // a WRITE may stand where one was undone, of which something was told
        void forget(int write) {
            told[write] = false;
        }

        void keepEdges(int write, int a, int b, int c, int d) {
            told[write] = true;
            edges[EDGES * write] = a;
            edges[EDGES * write + 1] = b;
            edges[EDGES * write + 2] = c;
            edges[EDGES * write + 3] = d;
        }

        int edge(int write, int what) {
            return told[write] ? edges[EDGES * write + what] : edgeIfUntold(write, what);
        }

        int bytesWithin(int write) {
            return file.lengthWithin(edge(write, 0), edge(write, 1))
                + file.lengthWithin(edge(write, 2), edge(write, 3));
        }

        void keepNumbers(int revision) {
            for (int w = writes.firstOf[revision]; w < writes.behind(revision); w++) {
                if (writes.isSeal(w)) {
                    kept[w] = numberNow(w);
                }
            }
        }

        void reckonAll() {
            for (int w = 0; w < writes.size; w++) {
                if (writes.isClosedSeal(w)) {
                    numberIs[w] = numberNow(w);
                    flawsAre[w] = flawsOfEdges(w) | (numberIs[w] == kept[w] ? 0 : FLAW_NUMBER);
                }
            }
        }

        private int numberNow(int write) {
            int h = file.numberOver(7, edge(write, 0), edge(write, 1));
            return file.numberOver(h, edge(write, 2), edge(write, 3));
        }

        private int flawsOfEdges(int seal) {
            int found = edge(seal, 0) == edgeIfUntold(seal, 0) ? 0 : FLAW_START;
            if (edge(seal, 1) != edgeIfUntold(seal, 1) || edge(seal, 2) != edgeIfUntold(seal, 2)) {
                found |= FLAW_GAP;
            }
            if (edge(seal, 3) != edgeIfUntold(seal, 3)) {
                found |= FLAW_END;
            }
            return found;
        }

        private int edgeIfUntold(int write, int what) {
            switch (what) {
                case 0: return 0;
                case 1: return writes.firstByte(write);
                case 2: return writes.firstByte(write) + WRITE_BYTES;
                default: return writes.behindBytesOf(writes.home[write]);
            }
        }
    }

    /**
     * What each THING is behind each REVISION, and what each REVISION changes.
     * Which CHANGES there are is the same for all SEALS ahead of them; only of
     * what sort they are depends on the REVISION of the SEAL.
     */
    private static final class History {
        private final Writes writes;
        private final int[] latest = new int[MOST_REVISIONS * THINGS];
        final int[] there = new int[MOST_REVISIONS];
        final int[] shadowed = new int[MOST_REVISIONS];
        final int[] changeRevision = new int[MOST_REVISIONS * THINGS];
        final int[] changeThing = new int[MOST_REVISIONS * THINGS];
        final int[] changesUpTo = new int[MOST_REVISIONS];
        // of the SEALS of each REVISION
        final int[] verdict = new int[MOST_REVISIONS];
        final int[] tamperings = new int[MOST_REVISIONS];
        int changes = 0;

        History(Writes writes) {
            this.writes = writes;
        }

        // as if the WRITE left was not told (NONE: all are)
        void retell(int left) {
            changes = 0;
            for (int r = 0; r <= writes.closed; r++) {
                startRow(r);
                takeWrites(r, left);
                there[r] = thingsThere(r);
                noteChanges(r);
                changesUpTo[r] = changes;
            }
            for (int r = 0; r < writes.closed; r++) {
                judgeBehind(r);
            }
        }

        int latestOf(int revision, int thing) {
            return latest[revision * THINGS + thing];
        }

        int changesBehind(int revision) {
            return changes - changesUpTo[revision];
        }

        int sortOf(int k, int sealRevision) {
            int revision = changeRevision[k];
            int thing = changeThing[k];
            if (isIn(shadowed[revision], thing)) {
                return TAMPERING;
            }
            int was = latestOf(revision - 1, thing);
            int is = latestOf(revision, thing);
            int wasKind = writes.kindOrGone(was);
            int isKind = writes.kindOrGone(is);
            if (isFilling(wasKind, isKind)) {
                return FILLING;
            }
            int thereAtSeal = there[sealRevision];
            if (isNoteOrGone(wasKind) && isNoteOrGone(isKind) && !isIn(thereAtSeal, thing)) {
                return REMARK;
            }
            if (wasKind == LIST && isKind == LIST) {
                int moved = writes.valueOf[was] ^ writes.valueOf[is];
                return (moved & thereAtSeal) == 0 ? REMARK : TAMPERING;
            }
            return TAMPERING;
        }

        private void judgeBehind(int sealRevision) {
            verdict[sealRevision] = 0;
            tamperings[sealRevision] = 0;
            for (int k = changesUpTo[sealRevision]; k < changes; k++) {
                int sort = sortOf(k, sealRevision);
                verdict[sealRevision] = Math.max(verdict[sealRevision], sort);
                if (sort == TAMPERING) {
                    tamperings[sealRevision]++;
                }
            }
        }

        private void startRow(int r) {
            int row = r * THINGS;
            if (r == 0) {
                Arrays.fill(latest, 0, THINGS, NONE);
            } else {
                System.arraycopy(latest, row - THINGS, latest, row, THINGS);
            }
            shadowed[r] = 0;
        }

        private void takeWrites(int r, int left) {
            for (int w = writes.firstOf[r]; w < writes.behind(r); w++) {
                if (w == left) {
                    continue;
                }
                int thing = writes.thingOf[w];
                int ahead = latestOf(r, thing);
                if (ahead >= writes.firstOf[r] && writes.unlike(ahead, w)) {
                    shadowed[r] |= 1 << thing;
                }
                latest[r * THINGS + thing] = w;
            }
        }

        private int thingsThere(int r) {
            int things = 0;
            for (int t = 0; t < THINGS; t++) {
                if (writes.kindOrGone(latestOf(r, t)) != GONE) {
                    things |= 1 << t;
                }
            }
            return things;
        }

        // no SEAL is ahead of REVISION 0, so nothing there is a CHANGE
        private void noteChanges(int r) {
            for (int t = 0; r > 0 && t < THINGS; t++) {
                if (isIn(shadowed[r], t) || isOther(r, t)) {
                    changeRevision[changes] = r;
                    changeThing[changes] = t;
                    changes++;
                }
            }
        }

        private boolean isOther(int r, int thing) {
            boolean wasThere = isIn(there[r - 1], thing);
            boolean isThere = isIn(there[r], thing);
            return wasThere != isThere
                || isThere && writes.unlike(latestOf(r - 1, thing), latestOf(r, thing));
        }

        private static boolean isIn(int things, int thing) {
            return (things >> thing & 1) != 0;
        }

        private static boolean isFilling(int wasKind, int isKind) {
            return wasKind == FIELD && isKind == FIELD || wasKind == GONE && isKind == SEAL;
        }

        private static boolean isNoteOrGone(int kind) {
            return kind == NOTE || kind == GONE;
        }
    }

    /** A SHEET: its row is made once and used again whatever FORM it has. */
    private static final class Sheet {
        final int[] items = new int[MOST_ITEMS];
        boolean lost = true;
        int form = 0;
        int size = 0;

        void renew(int newForm, int n) {
            lost = false;
            form = newForm;
            size = n;
            Arrays.fill(items, 0);
        }

        int findingAt(int asForm, int i) {
            if (lost) {
                return NULL;
            }
            if (form != asForm) {
                return CAST;
            }
            return i < 0 || i >= size ? INDEX : 0;
        }

        // told by what is left behind i: i + n might wrap
        boolean hasItems(int i, int n) {
            return i >= 0 && n >= 0 && n <= size - i;
        }

        void layItem(int i, int v) {
            switch (form) {
                case BYTES_FORM:
                    items[i] = (byte) v;
                    break;
                case SHORTS_FORM:
                    items[i] = (short) v;
                    break;
                default:
                    items[i] = v;
            }
        }
    }
}
