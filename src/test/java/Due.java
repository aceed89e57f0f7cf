/** Counts answers that are not the ones that are due. */
final class Due {
    private int wrong = 0;
    private int asked = 0;
    private final String name;

    Due(String name) {
        this.name = name;
    }

    boolean due(String what, long got, long want) {
        asked++;
        if (got == want) {
            return true;
        }
        wrong++;
        if (wrong <= 40) {
            System.out.println(name + ": " + what + " answered " + got + ", due is " + want);
        }
        return false;
    }

    void end() {
        System.out.println(name + ": " + asked + " answers, " + wrong + " not as due");
        if (wrong != 0 || asked == 0) {
            System.exit(1);
        }
    }
}
