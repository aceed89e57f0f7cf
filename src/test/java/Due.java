/** Counts answers that are not the ones that are due. */
final class Due {
    /** Far above what a test takes. */
    private static final long MOST_MILLIS = 300000;

    private int wrong = 0;
    private int asked = 0;
    private final String name;

    Due(String name) {
        this.name = name;
        Thread watch = new Thread(this::endIfEndless);
        watch.setDaemon(true);
        watch.start();
    }

    /** A call that fails to end makes the test fail, too. */
    private void endIfEndless() {
        try {
            Thread.sleep(MOST_MILLIS);
        } catch (InterruptedException stopped) {
            return;
        }
        System.out.println(name + ": a call did not end");
        Runtime.getRuntime().halt(1);
    }

    boolean due(String what, long got, long want) {
        asked++;
        if (got == want) {
            return true;
        }
        wrong++;
        if (wrong <= 40) {
            System.out.println(name + ": " + what + " answered " + got + ", due is " + want);
        }
        return false;
    }

    void end() {
        System.out.println(name + ": " + asked + " answers, " + wrong + " not as due");
        if (wrong != 0 || asked == 0) {
            System.exit(1);
        }
    }
}
