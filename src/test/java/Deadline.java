/** No call may fail to end: tests that go on far longer than they ever need are wrong, not slow. */
final class Deadline {
    private static final int SECONDS = 300;

    private Deadline() {
    }

    static void begin() {
        Thread watch = new Thread(() -> {
            try {
                Thread.sleep(SECONDS * 1000L);
            } catch (InterruptedException ended) {
                return;
            }
            System.out.println("FAILED: not at an end after " + SECONDS + " seconds");
            System.out.flush();
            Runtime.getRuntime().halt(1);
        });
        watch.setDaemon(true);
        watch.start();
    }
}
