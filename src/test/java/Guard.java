import java.lang.reflect.InvocationTargetException;

/** Runs the test that is named, and lets it fail if it does not end: no call may fail to end. */
public final class Guard {
    private static final long LIMIT_SECONDS = 300;

    private Guard() {
    }

    public static void main(String[] args) throws ReflectiveOperationException {
        Thread watch = new Thread(() -> failLater(args[0]));
        watch.setDaemon(true);
        watch.start();
        try {
            Class.forName(args[0]).getMethod("main", String[].class).invoke(null, (Object) new String[0]);
        } catch (InvocationTargetException thrown) {
            thrown.getCause().printStackTrace();
            System.exit(1);
        }
    }

    private static void failLater(String test) {
        try {
            Thread.sleep(1000 * LIMIT_SECONDS);
        } catch (InterruptedException stopped) {
            return;
        }
        System.out.println(test + " has not ended after " + LIMIT_SECONDS + " seconds");
        System.out.flush();
        Runtime.getRuntime().halt(1);
    }
}
