import java.lang.reflect.InvocationTargetException;
import java.lang.reflect.Method;
import java.lang.reflect.Modifier;
import java.util.Arrays;
import java.util.Comparator;

/** Counts answers that are due and those that are not. */
final class Check {
    private int right = 0;
    private int wrong = 0;
    // the test that is running, if cases() runs it
    private String test = "";

    void is(String call, long got, long due) {
        if (got == due) {
            right++;
        } else {
            wrong++;
            System.out.println(test + call + " answered " + got + ", due is " + due);
        }
    }

    void yes(String call, boolean got) {
        is(call, got ? 1 : 0, 1);
    }

    void no(String call, boolean got) {
        is(call, got ? 1 : 0, 0);
    }

    /** Runs every test of the class, which are its methods "promise..", so that none can be left out; then closes. */
    static void cases(Class<?> tests, Check check) {
        Method[] methods = tests.getDeclaredMethods();
        Arrays.sort(methods, Comparator.comparing(Method::getName));
        int run = 0;
        for (Method method : methods) {
            if (method.getName().startsWith("promise")) {
                check.runCase(method);
                run++;
            }
        }
        check.test = "";
        check.close(tests.getName() + ", " + run + " tests");
    }

    private void runCase(Method method) {
        test = method.getName() + ": ";
        try {
            if (!Modifier.isStatic(method.getModifiers()) || method.getParameterCount() != 0) {
                throw new IllegalStateException("a test is static and takes nothing");
            }
            method.invoke(null);
        } catch (InvocationTargetException e) {
            wrong++;
            System.out.println(test + "threw");
            e.getCause().printStackTrace(System.out);
        } catch (IllegalAccessException e) {
            throw new IllegalStateException(e);
        }
    }

    /** Whether the desk shows what it showed before. */
    void same(String call, CoverDesk desk, Shown before) {
        String other = before.unlike(desk);
        if (other.isEmpty()) {
            right++;
        } else {
            wrong++;
            System.out.println(test + call + " has changed " + other);
        }
    }

    /** Puts a text on the desk's tape, behind what stands there. */
    static void tell(CoverDesk desk, String text) {
        int start = desk.look(8);
        for (int i = 0; i < text.length(); i += 20) {
            int[] n = new int[5];
            for (int k = 0; k < 20; k++) {
                int c = i + k < text.length() ? text.charAt(i + k) : 0;
                n[k / 4] = n[k / 4] << 8 | c;
            }
            desk.feed(n[0], n[1], n[2], n[3], n[4]);
        }
        desk.end(start + text.length());
    }

    static int book(CoverDesk desk, String text) {
        tell(desk, text);
        return desk.book();
    }

    static int day(CoverDesk desk, String text) {
        tell(desk, text);
        return desk.day();
    }

    static int named(CoverDesk desk, String text, int what) {
        tell(desk, text);
        return desk.named(what);
    }

    static CoverDesk desk(String book) {
        CoverDesk desk = new CoverDesk();
        if (book(desk, book) < 0) {
            throw new IllegalStateException("the test's own book has fault " + desk.fault(0) + " at " + desk.fault(1)
                    + ": " + book);
        }
        return desk;
    }

    /** Goes on by as many months as one likes. */
    static void pass(CoverDesk desk, int months) {
        for (int left = months; left > 0; left -= 99) {
            desk.months(Math.min(left, 99));
        }
    }

    void close(String name) {
        System.out.println(name + ": " + right + " answers as due, " + wrong + " not");
        if (wrong != 0) {
            System.exit(1);
        }
    }
}
