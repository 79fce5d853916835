import java.lang.reflect.InvocationTargetException;
import java.lang.reflect.Method;

/** Runs the main method of the test that is named, and ends it as failed if a call in it does not end. */
public final class Watched {
    /** Far above what a test needs (some seconds), so that a slow machine is no failure. */
    private static final long MOST_MILLISECONDS = 10 * 60 * 1000L;

    private Watched() {
    }

    public static void main(String[] args) throws Throwable {
        Thread watch = new Thread(() -> endLater(args[0]));
        watch.setDaemon(true);
        watch.start();
        Method test = Class.forName(args[0]).getMethod("main", String[].class);
        try {
            test.invoke(null, (Object) new String[0]);
        } catch (InvocationTargetException e) {
            throw e.getCause();
        }
    }

    private static void endLater(String test) {
        try {
            Thread.sleep(MOST_MILLISECONDS);
        } catch (InterruptedException e) {
            System.out.println("the watch was stopped");
        }
        System.out.println(test + " did not end");
        System.out.flush();
        Runtime.getRuntime().halt(1);
    }
}
