/** Promise 2: reset. */
final class ResetTest {
    public static void main(String[] args) {
        Check check = new Check("ResetTest");
        sizes(check);
        refused(check);
        emptied(check);
        linksOpen(check);
        check.end();
    }

    private static void sizes(Check check) {
        FlitTorus x = new FlitTorus();
        for (int n = 2; n <= 8; n++) {
            for (int mode = 0; mode <= 1; mode++) {
                check.isTrue("reset(" + n + ", " + mode + ", 1000)", x.reset(n, mode, 1000));
                check.equal("the last node", x.node(n * n - 1, 0), 0);
                check.equal("the one behind it", x.node(n * n, 0), FlitTorus.NONE);
                check.equal("mode " + mode + " closes links", x.link(0, 0, false) ? 1 : 0, 1 - mode);
            }
        }
        check.isTrue("reset(2, 0, 1) of a smaller one again", x.reset(2, 0, 1));
        check.equal("node(4, 0)", x.node(4, 0), FlitTorus.NONE);
    }

    private static void refused(Check check) {
        FlitTorus x = new FlitTorus();
        x.reset(3, 0, 7);
        x.link(0, 0, false);
        x.put(0, 4, 2, 9);
        x.cycle();
        int[][] wrong = {
            {1, 0, 1}, {9, 0, 1}, {0, 0, 1}, {-2, 0, 1}, {Integer.MAX_VALUE, 0, 1}, {Integer.MIN_VALUE, 0, 1},
            {3, -1, 1}, {3, 2, 1}, {3, Integer.MAX_VALUE, 1}, {3, Integer.MIN_VALUE, 1},
            {3, 0, 0}, {3, 0, 1001}, {3, 0, -5}, {3, 1, Integer.MAX_VALUE}, {3, 1, Integer.MIN_VALUE}};
        for (int[] one : wrong) {
            check.isFalse("reset(" + one[0] + ", " + one[1] + ", " + one[2] + ")", x.reset(one[0], one[1], one[2]));
            check.equal("then count(0)", x.count(0), 1);
            check.equal("then count(3)", x.count(3), 1);
            check.equal("then node(0, 1)", x.node(0, 1), 1);
            check.equal("then node(8, 0)", x.node(8, 0), 0);
            check.equal("then node(9, 0)", x.node(9, 0), FlitTorus.NONE);
            check.equal("then distance(0, 1)", x.distance(0, 1), 2);
        }
    }

    private static void emptied(Check check) {
        FlitTorus x = new FlitTorus();
        x.reset(2, 0, 2);
        for (int i = 0; i < 4; i++) {
            x.put(1, 0, 8, i);
            x.put(2, 0, 8, i);
            x.put(3, 0, 8, i);
        }
        for (int i = 0; i < 60; i++) {
            x.cycle();
        }
        x.take(0);
        check.isTrue("something was asked for", x.count(4) > 0);
        check.isTrue("reset(2, 0, 2)", x.reset(2, 0, 2));
        for (int what = 0; what <= 5; what++) {
            check.equal("count(" + what + ")", x.count(what), 0);
        }
        for (int node = 0; node < 4; node++) {
            for (int what = 0; what <= 8; what++) {
                check.equal("node(" + node + ", " + what + ")", x.node(node, what), 0);
            }
            for (int line = 0; line < 4; line++) {
                check.equal("flit(" + node + ", " + line + ", 0)", x.flit(node, line, 0), FlitTorus.NONE);
            }
            check.equal("taken(" + node + ", 0)", x.taken(node, 0), FlitTorus.NONE);
        }
        check.takeThrows(x, 0, IllegalStateException.class);
        check.equal("golden(2)", x.golden(2), 0);
        for (int i = 0; i < 30; i++) {
            check.equal("no note is left: cycle()", x.cycle(), 0);
        }
        check.isTrue("nothing is left that forbids link(0, 0, false)", x.link(0, 0, false));
    }

    private static void linksOpen(Check check) {
        FlitTorus x = new FlitTorus();
        x.reset(4, 0, 1);
        x.link(0, 0, false);
        x.link(5, 3, false);
        check.isTrue("reset(4, 1, 1)", x.reset(4, 1, 1));
        check.equal("distance(0, 1)", x.distance(0, 1), 1);
        check.equal("distance(5, 1)", x.distance(5, 1), 1);
    }
}
