/** Counts and prints the answers that are not as due. */
final class Check {
    private final String test;
    private int asked;
    private int wrong;

    Check(String test) {
        this.test = test;
    }

    void equal(String call, int got, int due) {
        asked++;
        if (got != due) {
            wrong++;
            System.out.println(test + ": " + call + " answered " + got + ", due is " + due);
        }
    }

    void isTrue(String call, boolean got) {
        equal(call, got ? 1 : 0, 1);
    }

    void isFalse(String call, boolean got) {
        equal(call, got ? 1 : 0, 0);
    }

    void takes(FlitTorus x, int node, int dueTag) {
        try {
            equal("take(" + node + ")", x.take(node), dueTag);
        } catch (RuntimeException e) {
            isTrue("take(" + node + ") threw " + e, false);
        }
    }

    void takeThrows(FlitTorus x, int node, Class<? extends RuntimeException> due) {
        Class<?> got = null;
        try {
            x.take(node);
        } catch (RuntimeException e) {
            got = e.getClass();
        }
        isTrue("take(" + node + ") threw " + got + ", due is " + due, got == due);
    }

    void cycles(FlitTorus x, int... dueMoves) {
        for (int i = 0; i < dueMoves.length; i++) {
            equal("cycle() " + (i + 1) + " of " + dueMoves.length, x.cycle(), dueMoves[i]);
        }
    }

    /** All of flit(node, line, 0 .. 5). */
    void flit(FlitTorus x, int node, int line, int... due) {
        for (int what = 0; what < due.length; what++) {
            equal("flit(" + node + ", " + line + ", " + what + ")", x.flit(node, line, what), due[what]);
        }
    }

    void end() {
        System.out.println(test + ": " + asked + " answers, " + wrong + " not as due");
        if (wrong != 0) {
            System.exit(1);
        }
    }
}
