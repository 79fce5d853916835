import java.lang.reflect.InvocationTargetException;
import java.lang.reflect.Method;
import java.util.Map;
import java.util.TreeMap;

/** Counts the answers that are not as due, and prints them. */
final class Due {
    private static int checked = 0;
    private static int wrong = 0;

    private Due() {
    }

    static void is(String call, long due, long got) {
        checked++;
        if (got != due) {
            wrong++;
            System.out.println(call + " answered " + got + ", due is " + due);
        }
    }

    static void yes(String call, boolean got) {
        is(call, 1, got ? 1 : 0);
    }

    static void no(String call, boolean got) {
        is(call, 0, got ? 1 : 0);
    }

    /** Runs each method of the class whose name begins so: none can be forgotten. */
    static void runAll(Class<?> tests, String begin) throws IllegalAccessException {
        Map<String, Method> byName = new TreeMap<>();
        for (Method m : tests.getDeclaredMethods()) {
            if (m.getName().startsWith(begin)) {
                byName.put(m.getName(), m);
            }
        }
        yes(tests + " has tests", !byName.isEmpty());
        for (Method m : byName.values()) {
            m.setAccessible(true);
            try {
                m.invoke(null);
                Bound.endAll();
            } catch (InvocationTargetException e) {
                is(m.getName() + " threw " + e.getCause(), 0, 1);
            }
        }
        System.out.println(byName.size() + " tests");
    }

    static void end() {
        System.out.println(checked + " answers looked at, " + wrong + " not as due");
        if (wrong != 0 || checked == 0) {
            System.exit(1);
        }
    }
}
