import java.util.ArrayList;
import java.util.List;

/**
 * Long runs of calls, chosen by a fixed row of numbers, on SealedFile and on a
 * slow model of the document that keeps nothing but what was told and works
 * every answer out anew, word by word. Every answer must be the same.
 */
public final class ModelTest {
    private static final int RUNS = 200, ACTS = 250, MOST_CALLS = 512, MOST_OF_AN_ACT = 5, LEAST = Integer.MIN_VALUE;
    private static int wrong = 0;

    /** One WRITE, with what was told of it. */
    private static final class W {
        int thing, kind, value, revision, kept;
        int[] told = null;

        boolean like(W o) {
            return kind == o.kind && value == o.value;
        }
    }

    /** The document, as plainly as it can be told. */
    private static final class Model {
        final List<W> ws = new ArrayList<>();
        final Object[] sheets = new Object[4];
        int closed = 0, finding = 0;

        int find(int n) {
            finding = n;
            return -10 - n;
        }

        List<Integer> file() {
            List<Integer> all = new ArrayList<>();
            for (int r = 0; r <= closed; r++) {
                for (W w : ws) {
                    if (w.revision == r) {
                        all.add(79);
                        all.add(w.thing);
                        all.add(w.kind);
                        all.add(w.value >> 8);
                        all.add(w.value & 255);
                    }
                }
                if (r < closed) {
                    all.add(0);
                    all.add(r);
                }
            }
            return all;
        }

        int inOpen() {
            int n = 0;
            for (W w : ws) {
                n += w.revision == closed ? 1 : 0;
            }
            return n;
        }

        boolean none(int write) {
            return write < 0 || write >= ws.size();
        }

        int put(int thing, int kind, int value) {
            if (thing < 0 || thing > 15 || kind < 0 || kind > 5 || value < 0) return -2;
            if (value > 65535 || kind == 4 && value > 2) return -2;
            if (ws.size() == 40) return -4;
            W w = new W();
            w.thing = thing;
            w.kind = kind;
            w.value = value;
            w.revision = closed;
            ws.add(w);
            return ws.size();
        }

        int close() {
            if (inOpen() == 0) return -3;
            if (closed == 7) return -4;
            closed++;
            for (int i = 0; i < ws.size(); i++) {
                if (ws.get(i).kind == 4 && ws.get(i).revision == closed - 1) ws.get(i).kept = numberOf(i);
            }
            return closed;
        }

        int undo() {
            if (inOpen() == 0) return -3;
            ws.remove(ws.size() - 1);
            return ws.size();
        }

        int cover(int write, int a, int b, int c, int d) {
            if (none(write)) return -2;
            for (int e : new int[] {a, b, c, d}) {
                if (e < 0 || e > 400) return -2;
            }
            if (b < a || c < b || d < c) return -2;
            W w = ws.get(write);
            if (w.kind != 4 || w.revision != closed) return -3;
            w.told = new int[] {a, b, c, d};
            return 1;
        }

        int alter(int write, int value) {
            if (none(write) || value < 0 || value > 65535) return -2;
            W w = ws.get(write);
            if (w.kind == 4 && value > 2) return -2;
            int was = w.value;
            w.value = value;
            return was;
        }

        int read(int s) {
            if (s < 0 || s > 3) return -2;
            if (sheets[s] == null) return find(1);
            int n = 0;
            for (int i = 0; i + 2 < length(s); i += 3) {
                if (put(item(s, i), item(s, i + 1), item(s, i + 2)) < 0) return n;
                n++;
            }
            return n;
        }

        int write(int write, int what) {
            if (none(write) || what < 0 || what > 4) return -2;
            W w = ws.get(write);
            return new int[] {w.thing, w.kind, w.value, w.revision, start(write)}[what];
        }

        int start(int write) {
            return 5 * write + 2 * ws.get(write).revision;
        }

        int revision(int revision, int what) {
            if (revision < 0 || revision > closed || what < 0 || what > 3) return -2;
            int ahead = 0, inIt = 0;
            for (W w : ws) {
                ahead += w.revision < revision ? 1 : 0;
                inIt += w.revision == revision ? 1 : 0;
            }
            int from = 5 * ahead + 2 * revision;
            int to = from + 5 * inIt + (revision < closed ? 2 : 0);
            return new int[] {ahead, inIt, from, to}[what];
        }

        int bytes(int i) {
            List<Integer> f = file();
            if (i == -1) return f.size();
            return i < 0 || i >= f.size() ? -2 : f.get(i);
        }

        /** The WRITE that tells what a THING is, -1: it is not THERE. */
        int tells(int thing, int revision, int left) {
            int at = -1;
            for (int i = 0; i < ws.size(); i++) {
                if (i != left && ws.get(i).thing == thing && ws.get(i).revision <= revision) at = i;
            }
            return at >= 0 && ws.get(at).kind == 5 ? -1 : at;
        }

        boolean shadowed(int thing, int revision, int left) {
            W ahead = null;
            for (int i = 0; i < ws.size(); i++) {
                W w = ws.get(i);
                if (i == left || w.thing != thing || w.revision != revision) continue;
                if (ahead != null && !ahead.like(w)) return true;
                ahead = w;
            }
            return false;
        }

        int thing(int thing, int revision, int what) {
            if (thing < 0 || thing > 15 || revision < 0 || revision > closed || what < 0 || what > 2) return -2;
            int at = tells(thing, revision, -1);
            if (at < 0) return -1;
            return new int[] {ws.get(at).kind, ws.get(at).value, at}[what];
        }

        int shadows(int revision) {
            if (revision < 0 || revision > closed) return -2;
            int bits = 0;
            for (int t = 0; t < 16; t++) {
                if (shadowed(t, revision, -1)) bits |= 1 << t;
            }
            return bits;
        }

        int[] untold(int write) {
            int s = start(write);
            return new int[] {0, s, s + 5, revision(ws.get(write).revision, 3)};
        }

        int[] edges(int write) {
            return ws.get(write).told != null ? ws.get(write).told : untold(write);
        }

        List<Integer> under(int write) {
            List<Integer> all = file(), under = new ArrayList<>();
            int[] e = edges(write);
            for (int i = 0; i < all.size(); i++) {
                if (i >= e[0] && i < e[1] || i >= e[2] && i < e[3]) under.add(all.get(i));
            }
            return under;
        }

        int numberOf(int write) {
            int h = 7;
            for (int b : under(write)) {
                h = 31 * h + b;
            }
            return h;
        }

        boolean seal(int write) {
            return ws.get(write).kind == 4;
        }

        boolean closedSeal(int write) {
            return seal(write) && ws.get(write).revision < closed;
        }

        int covers(int write, int what) {
            if (none(write) || what < 0 || what > 3) return -2;
            return seal(write) ? edges(write)[what] : -3;
        }

        int covered(int write) {
            if (none(write)) return -2;
            return seal(write) ? under(write).size() : -3;
        }

        int number(int write, int what) {
            if (none(write) || what < 0 || what > 1 || !closedSeal(write)) return LEAST;
            return what == 0 ? numberOf(write) : ws.get(write).kept;
        }

        int flaws(int write) {
            if (none(write)) return -2;
            if (!closedSeal(write)) return -3;
            int[] is = edges(write), due = untold(write);
            int bits = is[0] != 0 ? 1 : 0;
            if (is[1] != due[1] || is[2] != due[2]) bits += 2;
            if (is[3] != due[3]) bits += 4;
            if (numberOf(write) != ws.get(write).kept) bits += 8;
            return bits;
        }

        /** Of what sort what a REVISION makes of a THING is to a SEAL; 0: it is no CHANGE. */
        int sort(int sealed, int revision, int thing, int left) {
            if (shadowed(thing, revision, left)) return 3;
            int was = tells(thing, revision - 1, left), is = tells(thing, revision, left);
            if (was < 0 && is < 0) return 0;
            if (was >= 0 && is >= 0 && ws.get(was).like(ws.get(is))) return 0;
            int wasKind = was < 0 ? -1 : ws.get(was).kind, isKind = is < 0 ? -1 : ws.get(is).kind;
            if (wasKind == 1 && isKind == 1) return 1;
            if (wasKind == -1 && isKind == 4) return 1;
            boolean remark = (wasKind == -1 || wasKind == 2) && (isKind == 2 || isKind == -1);
            if (remark && tells(thing, sealed, left) < 0) return 2;
            if (wasKind != 3 || isKind != 3) return 3;
            for (int t = 0; t < 16; t++) {
                boolean before = (ws.get(was).value >> t) % 2 == 1, now = (ws.get(is).value >> t) % 2 == 1;
                if (before != now && tells(t, sealed, left) >= 0) return 3;
            }
            return 2;
        }

        List<int[]> changes(int write, int left) {
            List<int[]> all = new ArrayList<>();
            int sealed = ws.get(write).revision;
            for (int r = sealed + 1; r <= closed; r++) {
                for (int t = 0; t < 16; t++) {
                    int sort = sort(sealed, r, t, left);
                    if (sort > 0) all.add(new int[] {r, t, sort});
                }
            }
            return all;
        }

        boolean holds(int write, int left) {
            for (int[] c : changes(write, left)) {
                if (c[2] > ws.get(write).value) return false;
            }
            return flaws(write) == 0;
        }

        int judge(int write, int what) {
            if (none(write) || what < 0 || what > 3) return -2;
            if (!closedSeal(write)) return -3;
            int greatest = 0, tampering = 0, n = 0;
            for (int[] c : changes(write, -1)) {
                n++;
                greatest = Math.max(greatest, c[2]);
                tampering += c[2] == 3 ? 1 : 0;
            }
            return new int[] {greatest, n, tampering, holds(write, -1) ? 1 : 0}[what];
        }

        int change(int write, int i, int what) {
            if (none(write) || i < 0 || i > 99 || what < 0 || what > 2) return -2;
            if (!closedSeal(write)) return -3;
            List<int[]> all = changes(write, -1);
            return i < all.size() ? all.get(i)[what] : -1;
        }

        int allowed(int revision) {
            if (revision < 0 || revision > closed) return -2;
            int least = 3;
            for (W w : ws) {
                if (w.kind == 4 && w.revision < revision) least = Math.min(least, w.value);
            }
            return least;
        }

        int first(int what) {
            if (what < 0 || what > 2) return -2;
            for (int r = 0; r <= closed; r++) {
                for (int t = 0; t < 16; t++) {
                    for (int i = 0; i < ws.size(); i++) {
                        if (!seal(i) || ws.get(i).revision >= r) continue;
                        if (sort(ws.get(i).revision, r, t, -1) > ws.get(i).value) return new int[] {r, t, i}[what];
                    }
                }
            }
            return -1;
        }

        int holdingWithout(int left) {
            int n = 0;
            for (int i = 0; i < ws.size(); i++) {
                if (i != left && closedSeal(i) && holds(i, left)) n++;
            }
            return n;
        }

        int seals() {
            int n = 0;
            for (int i = 0; i < ws.size(); i++) {
                n += closedSeal(i) ? 1 : 0;
            }
            return n;
        }

        int holding(int what) {
            return what == 0 ? holdingWithout(-1) : what == 1 ? seals() : -2;
        }

        int better(int what) {
            if (what < 0 || what > 1) return -2;
            int best = -1, most = -1;
            for (int i = ws.size() - 1; i >= 0; i--) {
                int n = holdingWithout(i);
                if (n >= most) {
                    best = i;
                    most = n;
                }
            }
            return what == 0 ? best : most;
        }

        int length(int s) {
            Object o = sheets[s];
            return o instanceof byte[] b ? b.length : o instanceof short[] h ? h.length : ((int[]) o).length;
        }

        int form(int s) {
            return sheets[s] instanceof byte[] ? 0 : sheets[s] instanceof short[] ? 1 : 2;
        }

        int item(int s, int i) {
            Object o = sheets[s];
            return o instanceof byte[] b ? b[i] : o instanceof short[] h ? h[i] : ((int[]) o)[i];
        }

        void setItem(int s, int i, int v) {
            Object o = sheets[s];
            if (o instanceof byte[] b) b[i] = (byte) v;
            else if (o instanceof short[] h) h[i] = (short) v;
            else ((int[]) o)[i] = v;
        }

        int sheet(int s, int form, int n) {
            if (s < 0 || s > 3 || form < 0 || form > 2 || n > 60) return -2;
            if (n < 0) return find(5);
            sheets[s] = form == 0 ? new byte[n] : form == 1 ? new short[n] : (Object) new int[n];
            return n;
        }

        int lose(int s) {
            if (s < 0 || s > 3) return -2;
            if (sheets[s] == null) return find(1);
            int n = length(s);
            sheets[s] = null;
            return n;
        }

        int findingAt(int s, int form, int i) {
            if (sheets[s] == null) return 1;
            if (form(s) != form) return 3;
            return i < 0 || i >= length(s) ? 2 : 0;
        }

        int lay(int s, int form, int i, int v) {
            if (s < 0 || s > 3 || form < 0 || form > 2) return -2;
            if (findingAt(s, form, i) != 0) return find(findingAt(s, form, i));
            setItem(s, i, v);
            return 1;
        }

        int get(int s, int form, int i) {
            if (s < 0 || s > 3 || form < 0 || form > 2) return LEAST;
            if (findingAt(s, form, i) == 0) return item(s, i);
            find(findingAt(s, form, i));
            return LEAST;
        }

        int copy(int s, int i, int t, int j, int n) {
            if (s < 0 || s > 3 || t < 0 || t > 3) return -2;
            if (sheets[s] == null || sheets[t] == null) return find(1);
            if (form(s) != form(t)) return find(4);
            if (i < 0 || j < 0 || n < 0) return find(2);
            if ((long) i + n > length(s) || (long) j + n > length(t)) return find(2);
            int[] were = new int[n];
            for (int k = 0; k < n; k++) were[k] = item(s, i + k);
            for (int k = 0; k < n; k++) setItem(t, j + k, were[k]);
            return 1;
        }

        int tell(int from, int s) {
            if (from < 0 || from > 400 || s < 0 || s > 3) return -2;
            if (sheets[s] == null) return find(1);
            List<Integer> f = file();
            int n = 0;
            while (n < length(s) && from + n < f.size()) {
                setItem(s, n, f.get(from + n));
                n++;
            }
            return n;
        }

        int count(int what) {
            if (what < 0 || what > 8) return -2;
            int there = 0, shadowed = 0;
            for (int t = 0; t < 16; t++) {
                there += tells(t, closed, -1) >= 0 ? 1 : 0;
                for (int r = 0; r <= closed; r++) shadowed += shadowed(t, r, -1) ? 1 : 0;
            }
            return new int[] {ws.size(), closed, file().size(), seals(), holdingWithout(-1), there, shadowed,
                allowed(closed), finding}[what];
        }

        long digest() {
            List<Integer> all = new ArrayList<>();
            for (int k = 0; k < 8; k++) all.add(count(k));
            for (int r = 0; r < 8; r++) {
                for (int k = 0; k < 4; k++) all.add(revision(r, k));
                all.add(shadows(r));
                all.add(allowed(r));
            }
            for (int t = 0; t < 16; t++) {
                all.add(thing(t, 0, 0));
                all.add(thing(t, 2, 1));
                for (int k = 0; k < 3; k++) all.add(thing(t, closed, k));
            }
            for (int w = 0; w < ws.size(); w++) {
                for (int k = 0; k < 5; k++) all.add(write(w, k));
                for (int k = 0; k < 4; k++) all.add(covers(w, k));
                all.add(covered(w));
                all.add(number(w, 0));
                all.add(number(w, 1));
                all.add(flaws(w));
                for (int k = 0; k < 4; k++) all.add(judge(w, k));
                for (int i = 0; i < 5; i++) {
                    for (int k = 0; k < 3; k++) all.add(change(w, i, k));
                }
            }
            for (int i = 0; i < 31; i++) all.add(bytes(i));
            all.add(bytes(-1));
            for (int k = 0; k < 3; k++) all.add(first(k));
            all.add(holding(0));
            all.add(holding(1));
            all.add(better(0));
            all.add(better(1));
            long h = 17;
            for (int x : all) h = 31 * h + x;
            return h;
        }
    }

    /** A fixed row of numbers: the same runs each time. */
    private static final class Numbers {
        private long at;

        Numbers(long seed) {
            at = seed * 0x9E3779B97F4A7C15L + 12345;
        }

        int below(int n) {
            at = at * 6364136223846793005L + 1442695040888963407L;
            return (int) ((at >>> 33) % n);
        }

        boolean oneIn(int n) {
            return below(n) == 0;
        }
    }

    private static final int[] STRANGE = {-1, -2, -11, Integer.MIN_VALUE, Integer.MAX_VALUE, 1 << 30, 65536, 401, 61, 41, 40, 16, 8, 100};

    /** One run: calls to both, each answer compared. */
    private static final class Run {
        final int seed;
        final Numbers n;
        final SealedFile x = new SealedFile();
        final Model m = new Model();
        final int things, puts;
        final StringBuilder told = new StringBuilder();
        int calls = 0;

        Run(int seed) {
            this.seed = seed;
            n = new Numbers(seed);
            things = 2 + n.below(15);
            puts = 2 + n.below(6);
        }

        /** Mostly 0 to ahead of most, at times a number that is not as told. */
        int some(int most) {
            return n.oneIn(40) ? STRANGE[n.below(STRANGE.length)] : n.below(Math.max(1, most));
        }

        int someWrite() {
            return some(m.ws.size() + (n.oneIn(20) ? 1 : 0));
        }

        int someSeal() {
            for (int k = 0; k < 6; k++) {
                int w = n.below(Math.max(1, m.ws.size()));
                if (w < m.ws.size() && m.seal(w)) return w;
            }
            return someWrite();
        }

        int someValue(int kind) {
            if (kind == 4) return n.oneIn(30) ? 3 : n.below(3);
            if (kind == 3) return n.oneIn(2) ? 1 << n.below(16) : n.below(65536);
            return n.oneIn(4) ? n.below(65536) : n.below(2);
        }

        void due(String call, long got, long want) {
            calls++;
            told.append(call).append(" = ").append(want).append('\n');
            if (got != want) {
                wrong++;
                System.out.println("run " + seed + ": " + call + " answered " + got + ", due is " + want);
                if (wrong == 1) System.out.println("the run:\n" + told);
            }
        }

        void act() {
            int choice = n.below(100);
            if (choice < 20 + puts * 2) {
                int kind = some(6);
                int t = n.oneIn(60) ? some(17) : n.below(things), v = n.oneIn(60) ? some(65536) : someValue(kind);
                due("put(" + t + ", " + kind + ", " + v + ")", x.put(t, kind, v), m.put(t, kind, v));
            } else if (choice < 44 - puts) {
                if (m.inOpen() > n.below(puts) || n.oneIn(10)) due("close()", x.close(), m.close());
            } else if (choice < 48) {
                due("undo()", x.undo(), m.undo());
            } else if (choice < 54) {
                actCover();
            } else if (choice < 58) {
                int w = someWrite(), v = n.oneIn(2) ? n.below(3) : some(65537);
                due("alter(" + w + ", " + v + ")", x.alter(w, v), m.alter(w, v));
                if (n.oneIn(2) && !m.none(w)) due("alter back", x.alter(w, 1), m.alter(w, 1));
            } else if (choice < 75) {
                actSheet(choice);
            } else {
                ask();
            }
        }

        void actCover() {
            int w = someSeal();
            int[] e = {0, 0, 0, 0};
            if (!m.none(w)) e = m.untold(w).clone();
            if (n.oneIn(2)) e[3] += 2;
            if (n.oneIn(2)) e[n.below(4)] = some(402);
            if (n.oneIn(5)) e[n.below(4)] += n.below(5) - 2;
            due("cover(" + w + ", " + e[0] + ", " + e[1] + ", " + e[2] + ", " + e[3] + ")",
                x.cover(w, e[0], e[1], e[2], e[3]), m.cover(w, e[0], e[1], e[2], e[3]));
        }

        void actSheet(int choice) {
            int s = some(4), f = n.oneIn(3) || s < 0 || s > 3 || m.sheets[s] == null ? some(3) : m.form(s);
            int i = some(n.oneIn(3) ? 62 : 12);
            if (choice < 60) {
                int k = n.oneIn(3) ? some(61) : some(13);
                due("sheet(" + s + ", " + f + ", " + k + ")", x.sheet(s, f, k), m.sheet(s, f, k));
            } else if (choice < 61) {
                due("lose(" + s + ")", x.lose(s), m.lose(s));
            } else if (choice < 67) {
                for (int k = 0; k < 4; k++) {
                    int at = i + k, v = n.oneIn(3) ? n.below(70000) - 200 : n.below(6);
                    due("lay(" + s + ", " + f + ", " + at + ", " + v + ")", x.lay(s, f, at, v), m.lay(s, f, at, v));
                }
            } else if (choice < 69) {
                due("get(" + s + ", " + f + ", " + i + ")", x.get(s, f, i), m.get(s, f, i));
            } else if (choice < 71) {
                int t = n.oneIn(2) ? s : some(4), j = some(12), k = some(12);
                due("copy(" + s + ", " + i + ", " + t + ", " + j + ", " + k + ")",
                    x.copy(s, i, t, j, k), m.copy(s, i, t, j, k));
            } else if (choice < 73) {
                int from = n.oneIn(2) ? some(402) : n.below(m.file().size() + 2);
                due("tell(" + from + ", " + s + ")", x.tell(from, s), m.tell(from, s));
            } else if (n.oneIn(6)) {
                due("read(" + s + ")", x.read(s), m.read(s));
            }
        }

        void ask() {
            int w = n.oneIn(3) ? someWrite() : someSeal(), k = some(5), r = some(m.closed + 2), t = some(17), i = some(101);
            switch (n.below(17)) {
                case 0 -> due("write(" + w + ", " + k + ")", x.write(w, k), m.write(w, k));
                case 1 -> due("revision(" + r + ", " + k + ")", x.revision(r, k), m.revision(r, k));
                case 2 -> due("bytes(" + i + ")", x.bytes(i), m.bytes(i));
                case 3 -> due("thing(" + t + ", " + r + ", " + k + ")", x.thing(t, r, k), m.thing(t, r, k));
                case 4 -> due("shadows(" + r + ")", x.shadows(r), m.shadows(r));
                case 5 -> due("covers(" + w + ", " + k + ")", x.covers(w, k), m.covers(w, k));
                case 6 -> due("covered(" + w + ")", x.covered(w), m.covered(w));
                case 7 -> due("number(" + w + ", " + k + ")", x.number(w, k), m.number(w, k));
                case 8 -> due("flaws(" + w + ")", x.flaws(w), m.flaws(w));
                case 9 -> due("judge(" + w + ", " + k + ")", x.judge(w, k), m.judge(w, k));
                case 10 -> {
                    int c = n.oneIn(2) ? n.below(12) : i;
                    due("change(" + w + ", " + c + ", " + k + ")", x.change(w, c, k), m.change(w, c, k));
                }
                case 11 -> due("allowed(" + r + ")", x.allowed(r), m.allowed(r));
                case 12 -> due("first(" + k + ")", x.first(k), m.first(k));
                case 13 -> due("holding(" + k + ")", x.holding(k), m.holding(k));
                case 14 -> due("better(" + k + ")", x.better(k), m.better(k));
                case 15 -> due("count(" + (k + k / 2) + ")", x.count(k + k / 2), m.count(k + k / 2));
                default -> due("count(8)", x.count(8), m.count(8));
            }
        }

        void sheetsAreAlike() {
            for (int s = 0; s < 4; s++) {
                for (int i = 0; m.sheets[s] != null && i < m.length(s) && calls < MOST_CALLS; i++) {
                    due("get(" + s + ", " + m.form(s) + ", " + i + ")", x.get(s, m.form(s), i), m.item(s, i));
                }
            }
        }
    }

    public static void main(String[] args) {
        EdgeCase.watch();
        for (int seed = 0; seed < RUNS && wrong == 0; seed++) {
            Run run = new Run(seed);
            for (int c = 0; c < ACTS && wrong == 0 && run.calls + MOST_OF_AN_ACT <= MOST_CALLS; c++) {
                run.act();
                if (c % 10 == 9) run.due("digest()", run.x.digest(), run.m.digest());
            }
            run.sheetsAreAlike();
        }
        System.out.println(wrong == 0 ? "all answers are as due" : wrong + " answers are not as due");
        if (wrong != 0) System.exit(1);
    }
}
