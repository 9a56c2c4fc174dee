import java.lang.reflect.InvocationTargetException;

/** Runs the test with the name that is given, and lets it fail if it takes too long: a call may have no end. */
public final class Watched {
    private static final long LONGEST_MILLISECONDS = 100_000;

    public static void main(String[] args) throws ReflectiveOperationException {
        String test = args[0];
        Thread watch = new Thread(() -> giveUp(test));
        watch.setDaemon(true);
        watch.start();
        try {
            Class.forName(test).getMethod("main", String[].class).invoke(null, (Object) new String[0]);
        } catch (InvocationTargetException e) {
            e.getCause().printStackTrace(System.out);
            System.exit(1);
        }
    }

    private static void giveUp(String test) {
        try {
            Thread.sleep(LONGEST_MILLISECONDS);
        } catch (InterruptedException e) {
            return;
        }
        System.out.println(test + " takes too long");
        Runtime.getRuntime().halt(1);
    }
}
