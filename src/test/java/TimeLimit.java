import java.lang.reflect.Method;

/** Runs the main method of a test, and gives it up when a call in it does not come to an end. */
final class TimeLimit {
    private static final long MOST_MILLISECONDS = 5 * 60 * 1000;

    private TimeLimit() {
    }

    public static void main(String[] args) throws ReflectiveOperationException {
        Thread guard = new Thread(() -> giveUp(args[0]));
        guard.setDaemon(true);
        guard.start();
        Method test = Class.forName(args[0]).getDeclaredMethod("main", String[].class);
        test.setAccessible(true);
        test.invoke(null, (Object) new String[0]);
    }

    private static void giveUp(String name) {
        try {
            Thread.sleep(MOST_MILLISECONDS);
        } catch (InterruptedException early) {
            return;
        }
        System.out.println(name + " does not come to an end");
        Runtime.getRuntime().halt(1);
    }
}
