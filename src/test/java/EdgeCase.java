import java.lang.reflect.InvocationTargetException;
import java.lang.reflect.Method;
import java.lang.reflect.Modifier;
import java.util.Arrays;
import java.util.Comparator;

/**
 * What the tests of edges share. Such a test has a method of its own for each
 * sentence of the document that names a boundary case: it begins with the
 * sentence (says), and tells what is due on both sides of the boundary.
 * No object is asked more than 512 times: what it answers then is free.
 */
class EdgeCase {
    static final int NONE = -1, BAD = -2, NOT = -3, FULL = -4, LEAST = Integer.MIN_VALUE, MOST = Integer.MAX_VALUE;
    static final int NULL = -11, INDEX = -12, CAST = -13, STORE = -14, SIZE = -15;
    static final int PAGE = 0, FIELD = 1, NOTE = 2, LIST = 3, SEAL = 4, GONE = 5;
    static final int BYTES = 0, SHORTS = 1, INTS = 2;

    // far more than a test needs: a call that does not end is told, not waited for
    private static final long MOST_MILLISECONDS = 120_000;

    private static int wrong = 0;
    private static int asked = 0;
    private static volatile String sentence = null;

    static void says(String text) {
        sentence = text;
    }

    static void due(String call, long got, long want) {
        asked++;
        if (got != want) {
            tellWrong(call + " answered " + got + ", due is " + want);
        }
    }

    private static void tellWrong(String what) {
        wrong++;
        System.out.println("\"" + sentence + "\": " + what);
    }

    /** Every method of the test is run, so none is forgotten; one that asks nothing is wrong. */
    static void runAll(Class<?> test) throws IllegalAccessException {
        watch();
        Method[] methods = test.getDeclaredMethods();
        Arrays.sort(methods, Comparator.comparing(Method::getName));
        for (Method m : methods) {
            boolean ofOneSentence = Modifier.isStatic(m.getModifiers()) && m.getParameterCount() == 0
                && m.getReturnType() == void.class && !m.isSynthetic();
            if (ofOneSentence) {
                runOne(m);
            }
        }
        System.out.println(wrong == 0 ? "all answers are as due" : wrong + " answers are not as due");
        if (wrong != 0) {
            System.exit(1);
        }
    }

    static void watch() {
        Thread watcher = new Thread(() -> {
            try {
                Thread.sleep(MOST_MILLISECONDS);
            } catch (InterruptedException e) {
                return;
            }
            System.out.println((sentence == null ? "" : "\"" + sentence + "\": ") + "a call does not end");
            Runtime.getRuntime().halt(1);
        });
        watcher.setDaemon(true);
        watcher.start();
    }

    private static void runOne(Method m) throws IllegalAccessException {
        sentence = null;
        int before = asked;
        try {
            m.setAccessible(true);
            m.invoke(null);
        } catch (InvocationTargetException e) {
            tellWrong(m.getName() + " threw " + e.getCause());
        }
        if (sentence == null || asked == before) {
            tellWrong(m.getName() + " tells no sentence, or asks nothing");
        }
    }

    /** A file told as thing, kind, value; a CLOSED REVISION for each row but the last. */
    static SealedFile fileOf(int[]... revisions) {
        SealedFile x = new SealedFile();
        for (int r = 0; r < revisions.length; r++) {
            for (int i = 0; i + 2 < revisions[r].length; i += 3) {
                due("put", x.put(revisions[r][i], revisions[r][i + 1], revisions[r][i + 2]), x.count(0));
            }
            if (r + 1 < revisions.length) {
                due("close", x.close(), r + 1);
            }
        }
        return x;
    }

    static int[] row(int... items) {
        return items;
    }

    /** A SHEET of these items. */
    static void lay(SealedFile x, int s, int form, int... items) {
        due("sheet", x.sheet(s, form, items.length), items.length);
        for (int i = 0; i < items.length; i++) {
            due("lay", x.lay(s, form, i, items[i]), 1);
        }
    }

    /** So many WRITES in all, the new ones of one THING, all alike. */
    static void fillUpTo(SealedFile x, int writes) {
        for (int n = x.count(0); n < writes; n++) {
            due("put up to " + writes, x.put(7, PAGE, 7), n + 1);
        }
    }

    /** So many CLOSED REVISIONS in all, a WRITE in each new one. */
    static void closeUpTo(SealedFile x, int closed) {
        for (int n = x.count(1); n < closed; n++) {
            x.put(7, PAGE, 7);
            due("close up to " + closed, x.close(), n + 1);
        }
    }

    static int numberOf(int... bytes) {
        int h = 7;
        for (int b : bytes) {
            h = 31 * h + b;
        }
        return h;
    }
}
