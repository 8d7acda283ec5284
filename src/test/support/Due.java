import java.lang.reflect.InvocationTargetException;
import java.lang.reflect.Method;
import java.lang.reflect.Modifier;

/** What the boundary tests share: answers that are due, towns made by a text, and all that an object shows. */
final class Due {
    static final int BAD = -1, NO = -2, FULL = -3, NONE = -4;
    static final long LAST_DAY = 1000000000000000L, TRILLION = 1000000000000L;

    /** One call on an object. */
    interface Call {
        long on(OwnSunday x);
    }

    private static String test = "";
    private static int asked;
    private static int wrong;

    private Due() { }

    static void due(String what, Object got, Object want) {
        asked++;
        if (!got.equals(want)) {
            wrong++;
            System.out.println(test + ": " + what + " answered " + got + ", due is " + want);
        }
    }

    static void due(String what, long got, long want) {
        due(what, Long.valueOf(got), Long.valueOf(want));
    }

    /** Runs all methods of a class that take nothing, each of them the test of one sentence; then exits 1 if need be. */
    static void runAll(Class<?> tests) throws Exception {
        int run = 0;
        for (Method m : tests.getDeclaredMethods()) {
            if (Modifier.isStatic(m.getModifiers()) && m.getParameterCount() == 0
                    && m.getReturnType() == void.class && !m.isSynthetic()) {
                test = m.getName();
                run(m);
                run++;
            }
        }
        System.out.println(asked + " answers in " + run + " tests, " + wrong + " not as due");
        if (wrong != 0 || run == 0) {
            System.exit(1);
        }
    }

    private static void run(Method m) throws Exception {
        try {
            m.invoke(null);
        } catch (InvocationTargetException e) {
            wrong++;
            System.out.println(test + " threw " + e.getCause());
        }
    }

    /** Eight bytes a call, so that few of the object's 512 calls are used. */
    static void write(OwnSunday x, String text) {
        for (int at = 0; at < text.length(); at += 8) {
            int n = Math.min(8, text.length() - at);
            x.write(n, bytes(text.substring(at, at + n)));
        }
    }

    static long bytes(String text) {
        long v = 0;
        for (int k = 0; k < text.length(); k++) {
            v = v << 8 | text.charAt(k);
        }
        return v;
    }

    static OwnSunday written(String text) {
        OwnSunday x = new OwnSunday();
        write(x, text);
        return x;
    }

    static OwnSunday laid(String text) {
        OwnSunday x = written(text);
        if (x.lay() < 1) {
            wrong++;
            System.out.println(test + ": not laid: " + text);
        }
        return x;
    }

    /** The fault of a text; and that it is laid, if it has none and a house, and else nothing changes. */
    static void fault(String text, int want) {
        OwnSunday x = written(text);
        due("fault() of " + text, x.fault(), want);
        boolean laid = want == NONE && text.indexOf('h') >= 0;
        String was = stateOf(x);
        due("lay() of " + text, x.lay() > 0, laid);
        if (!laid) {
            due("the town when " + text + " is not laid", stateOf(x), was);
        }
    }

    /** All that the face shows of an object as it stands, without a change. */
    static String stateOf(OwnSunday x) {
        StringBuilder s = new StringBuilder();
        for (int what = 0; what < 7; what++) {
            s.append(x.count(what)).append(' ');
        }
        for (int i = 0; i < x.count(0); i++) {
            s.append("| ");
            for (int what = 0; what < 5; what++) {
                s.append(x.house(i, what)).append(' ');
            }
            if (x.house(i, 4) == 1) {
                s.append("fits ").append(x.fits(i, true)).append(' ');
            }
        }
        for (int w = 0; w < x.count(1); w++) {
            s.append("| ").append(x.still(w)).append(' ').append(x.years(w, 0)).append(' ');
        }
        s.append("| ").append(x.fits(-1, false)).append(' ').append(x.fault());
        return s.append(" | ").append(x.fire(0, 999, 3, 2)).toString();
    }

    /** All that can be got out of an object: what is kept too, and what the text tells. It is used up then. */
    static String wholeOf(OwnSunday x) {
        StringBuilder s = new StringBuilder(stateOf(x));
        for (int left = x.back(); left >= 0; left = x.back()) {
            s.append(" # ").append(left).append(": ").append(stateOf(x));
        }
        s.append(" # laid ").append(x.lay()).append(": ").append(stateOf(x));
        return s.append(" # text ").append(x.wipe()).toString();
    }

    /** A town in which all is told, seen twice, kept twice, and neither the text nor what is kept is like what is now. */
    static OwnSunday lively() {
        OwnSunday x = laid("w4,5;h0,1,3,0;h1,4,1,2;n1;h0,3,2,1;n2;m0,1,2;m1,2,1;c2;");
        x.seen(1, 0, true);
        x.keep();
        x.change(0, 2);
        x.seen(7, 1, false);
        x.keep();
        x.wed(1, 0);
        x.change(2, 0);
        write(x, "w6,7;c1;");
        return x;
    }

    /** A call on the lively town that is refused, and that nothing changes then. */
    static void refused(String what, Call call, long want) {
        changesNothing(what, Due::lively, call, want);
    }

    interface Maker {
        OwnSunday make();
    }

    static void changesNothing(String what, Maker maker, Call call, long want) {
        OwnSunday x = maker.make();
        due(what, call.on(x), want);
        due("what stands behind " + what, wholeOf(x), wholeOf(maker.make()));
    }
}
