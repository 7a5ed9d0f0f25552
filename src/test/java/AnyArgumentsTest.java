/**
 * LANGUAGE.md, rules 6 and 7: a call throws what and where the document says, and nothing else, for
 * any arguments in any state.
 */
final class AnyArgumentsTest {
    private static final int[] VALUES = {Integer.MIN_VALUE, -1000, -9, -1, 0, 1, 2, 3, 4, 5, 7, 8, 9, 15, 16, 63, 64,
        255, 256, 1000, 1001, 1 << 16, 1 << 30, Integer.MAX_VALUE};

    private final Check check = new Check("AnyArgumentsTest");
    private int state;

    public static void main(String[] args) {
        new AnyArgumentsTest().all();
    }

    private void all() {
        for (state = 0; state < 12; state++) {
            askAll();
            changeAll();
        }
        check.end();
    }

    /** Nets of several sizes and both modes, empty, filled, or crowded. */
    private FlitTorus net() {
        int n = new int[] {2, 3, 8}[state % 3];
        FlitTorus x = Nets.net(n, state / 3 % 2, 1 + state);
        if (state >= 6) {
            Nets.crowdedRun(x, 30);
        }
        return x;
    }

    private void askAll() {
        for (int a : VALUES) {
            FlitTorus x = net();
            call("count and golden", () -> {
                x.count(a);
                x.golden(a);
            });
            for (int b : VALUES) {
                call("node, taken and distance of " + a + ", " + b, () -> {
                    x.node(a, b);
                    x.taken(a, b);
                    x.distance(a, b);
                });
            }
            FlitTorus y = net();
            for (int b : VALUES) {
                call("flit of " + a + ", " + b, () -> {
                    y.flit(a, b, 0);
                    y.flit(a, 0, b);
                    y.flit(0, a, b);
                });
            }
        }
    }

    private void changeAll() {
        for (int a : VALUES) {
            FlitTorus x = net();
            for (int b : VALUES) {
                call("link and put of " + a + ", " + b, () -> {
                    x.link(a, b, b % 2 == 0);
                    x.put(a, b, 1, a);
                    x.put(0, a, b, b);
                    x.cycle();
                });
            }
            takes(x, a);
            for (int b : VALUES) {
                call("reset of " + a + ", " + b, () -> {
                    x.reset(a, b, 1);
                    x.reset(a, 1, b);
                    x.reset(2, a, b);
                    x.cycle();
                });
            }
        }
    }

    private void takes(FlitTorus x, int node) {
        call("take(" + node + ")", () -> {
            try {
                x.take(node);
            } catch (IllegalArgumentException | IllegalStateException e) {
                check.isTrue("take alone throws", true);
            }
        });
    }

    private void call(String calls, Runnable them) {
        try {
            them.run();
            check.isTrue(calls, true);
        } catch (RuntimeException e) {
            check.isTrue("state " + state + ": " + calls + " threw " + e, false);
        }
    }
}
