/** Counts the answers that are not the ones that are due, and tells them. */
final class Due {
    private final String name;
    private int wrong;
    private int looked;

    Due(String name) {
        this.name = name;
    }

    void due(String call, long got, long want) {
        looked++;
        if (got == want) return;
        wrong++;
        System.out.println(name + ": " + call + " answered " + got + ", due is " + want);
    }

    void end() {
        System.out.println(name + ": " + looked + " answers, " + wrong + " of them not as due");
        if (wrong != 0) System.exit(1);
    }
}
