/** Runs the test that it is told and ends it with 1 if it lasts too long: a call that never ends fails its test. */
public final class Watch {
    // far more than any test needs, on a slow machine too
    private static final int SECONDS = Integer.getInteger("watch.seconds", 300);

    private Watch() {
    }

    public static void main(String[] args) throws Exception {
        Thread watch = new Thread(Watch::waitLong);
        watch.setDaemon(true);
        watch.start();
        Class.forName(args[0]).getMethod("main", String[].class).invoke(null, (Object) new String[0]);
    }

    private static void waitLong() {
        try {
            Thread.sleep(1000L * SECONDS);
            System.out.println("the test did not end within " + SECONDS + " seconds");
            Runtime.getRuntime().halt(1);
        } catch (InterruptedException e) {
            Thread.currentThread().interrupt();
        }
    }
}
