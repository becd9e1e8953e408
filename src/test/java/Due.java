/** Compares answers with those that are due, and tells at the end whether all were. */
final class Due {
    private int compared = 0;
    private int wrong = 0;

    void is(String what, long got, long want) {
        compared++;
        if (got != want) {
            wrong++;
            if (wrong <= 40) {
                System.out.println(what + " answered " + got + ", due is " + want);
            }
        }
    }

    void holds(String what, boolean so) {
        is(what, so ? 1 : 0, 1);
    }

    boolean anyWrong() {
        return wrong != 0;
    }

    void end() {
        System.out.println(compared + " compared, " + wrong + " not as due");
        if (wrong != 0 || compared == 0) {
            System.exit(1);
        }
    }
}
