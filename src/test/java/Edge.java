import java.lang.reflect.InvocationTargetException;
import java.lang.reflect.Method;
import java.lang.reflect.Modifier;
import java.util.ArrayList;
import java.util.Comparator;
import java.util.List;
import java.util.NoSuchElementException;

/** What the tests of the edges share: how a text is fed, how an answer is set against the one that is due. */
final class Edge {
    /** What lives answers here when it throws NoSuchElementException. */
    static final int NO_SUCH = -77;

    private static int passed = 0;
    private static int failed = 0;
    private static String test = "";

    private Edge() {
    }

    static int failures() {
        return failed;
    }

    static int passes() {
        return passed;
    }

    static void is(String what, long got, long due) {
        if (got == due) {
            passed++;
        } else {
            failed++;
            System.out.println(test + ": " + what + " is " + got + ", due is " + due);
        }
    }

    static void is(String what, boolean got, boolean due) {
        is(what, got ? 1 : 0, due ? 1 : 0);
    }

    /** The tests of a class are its static methods that take and answer nothing, but the private ones. */
    static List<Method> testsOf(Class<?> c) {
        List<Method> tests = new ArrayList<>();
        for (Method m : c.getDeclaredMethods()) {
            boolean fit = Modifier.isStatic(m.getModifiers()) && !Modifier.isPrivate(m.getModifiers());
            if (fit && m.getParameterCount() == 0 && m.getReturnType() == void.class && !m.isSynthetic()) {
                tests.add(m);
            }
        }
        tests.sort(Comparator.comparing(Method::getName));
        return tests;
    }

    static void run(Method m) {
        test = m.getDeclaringClass().getSimpleName() + "." + m.getName();
        int ahead = passed + failed;
        try {
            m.invoke(null);
        } catch (InvocationTargetException e) {
            failed++;
            System.out.println(test + " throws " + e.getCause());
        } catch (IllegalAccessException e) {
            failed++;
            System.out.println(test + " can't be called");
        }
        if (passed + failed == ahead) {
            failed++;
            System.out.println(test + " asks nothing");
        }
    }

    static void feed(FlashNodes x, String text) {
        for (int i = 0; i < text.length(); i += 24) {
            long[] v = new long[3];
            for (int j = 0; j < 24; j++) {
                v[j / 8] = v[j / 8] << 8 | (i + j < text.length() ? text.charAt(i + j) : 0);
            }
            x.feed(v[0], v[1], v[2]);
        }
    }

    static int store(FlashNodes x, String text) {
        feed(x, text);
        return x.store();
    }

    static int work(FlashNodes x, String text) {
        feed(x, text);
        return x.work();
    }

    /** A new object with that STORE. */
    static FlashNodes with(String text) {
        FlashNodes x = new FlashNodes();
        is("the fault of " + text, store(x, text), 0);
        return x;
    }

    /** A new object with that STORE and that WORK. */
    static FlashNodes with(String text, String work) {
        FlashNodes x = with(text);
        is("the fault of " + work, work(x, work), 0);
        return x;
    }

    /** The text without its | has a FAULT of that kind at the place of the | (as a STORE). */
    static void storeFault(int kind, String marked) {
        int place = marked.indexOf('|');
        is(marked, store(new FlashNodes(), marked.replace("|", "")), kind + 16 * place);
    }

    static void workFault(FlashNodes x, int kind, String marked) {
        int place = marked.indexOf('|');
        is(marked, work(x, marked.replace("|", "")), kind + 16 * place);
    }

    static void storeRight(String text) {
        is(text, store(new FlashNodes(), text), 0);
    }

    /** Whether a law is so with 3 SLOTS ERASED, 1 LIVE, 2 DIRTY and a JOURNAL of 3. */
    static boolean lawIsSo(String law) {
        FlashNodes x = with("blocks 3; slots 2; file a plain pages 1; collects " + law + ";");
        for (int i = 0; i < 4; i++) {
            x.write(0, 0, i);
        }
        return x.block(0, 3) == 1;
    }

    static int lives(FlashNodes x, int i) {
        try {
            return x.lives(i);
        } catch (NoSuchElementException e) {
            return NO_SUCH;
        }
    }

    static void slotIs(FlashNodes x, int slot, int... due) {
        for (int what = 0; what < due.length; what++) {
            is("slot " + slot + " what " + what, x.slot(slot, what), due[what]);
        }
    }

    static void countsAre(FlashNodes x, int... due) {
        for (int what = 0; what < due.length; what++) {
            is("count " + what, x.count(what), due[what]);
        }
    }

    /** The power is off now, CUT at the first part of a commit. */
    static void cutOff(FlashNodes x) {
        is("a cut", x.cut(1), true);
        is("the commit in which it comes", x.commit(), -2);
    }
}
