import java.lang.reflect.InvocationTargetException;
import java.lang.reflect.Method;

/** Runs a test's main method, and fails if it takes too long: a call that never ends must not keep CI waiting. */
final class Limited {
    private static final long MILLISECONDS = 300_000;

    private Limited() {
    }

    private static void waitAndFail(String test) {
        try {
            Thread.sleep(MILLISECONDS);
        } catch (InterruptedException e) {
            return;
        }
        System.out.println(test + " did not end in time");
        Runtime.getRuntime().halt(1);
    }

    public static void main(String[] args) throws ReflectiveOperationException {
        String test = args[0];
        Thread watch = new Thread(() -> waitAndFail(test));
        watch.setDaemon(true);
        watch.start();
        Method main = Class.forName(test).getDeclaredMethod("main", String[].class);
        main.setAccessible(true);
        try {
            main.invoke(null, (Object) new String[0]);
        } catch (InvocationTargetException e) {
            e.getCause().printStackTrace();
            System.exit(1);
        }
    }
}
