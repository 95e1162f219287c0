/** Counts and prints the calls whose answer is not the one that is due. */
final class Due {
    private static final long MOST_MILLIS = 180000;

    private final String name;
    private int asked;
    private int wrong;

    Due(String name) {
        this.name = name;
        Thread watch = new Thread(this::failLate);
        watch.setDaemon(true);
        watch.start();
    }

    /** A call that does not end is not as due either. */
    private void failLate() {
        try {
            Thread.sleep(MOST_MILLIS);
        } catch (InterruptedException e) {
            return;
        }
        System.out.println(name + ": not at its end after " + MOST_MILLIS + " milliseconds");
        Runtime.getRuntime().halt(1);
    }

    void is(String call, long got, long want) {
        asked++;
        if (got != want) {
            wrong++;
            System.out.println(name + ": " + call + " answered " + got + ", due is " + want);
        }
    }

    void isTrue(String what, boolean holds) {
        is(what, holds ? 1 : 0, 1);
    }

    void end() {
        System.out.println(name + ": " + asked + " answers looked at, " + wrong + " not as due");
        if (wrong != 0 || asked == 0) {
            System.exit(1);
        }
    }
}
