import java.util.List;

/** Promise 2: reset. */
final class ResetTest {
    private static final String REFUSED = "False, refused, when one is not as said.";

    public static void main(String[] args) {
        Check check = new Check("ResetTest");
        check.run(ResetTest::sizes, ResetTest::linksAreOpen, ResetTest::nothingIsInIt, ResetTest::noNoteIsLeft,
                ResetTest::turnNought, ResetTest::cycleNought, ResetTest::modesAndPatiences, ResetTest::wrongSize,
                ResetTest::wrongMode, ResetTest::wrongPatience, ResetTest::refusedChangesNothing);
        check.end();
    }

    private static void sizes(Check check) {
        check.sentence("Promise 2", "A net of n * n nodes");
        FlitTorus x = new FlitTorus();
        int[] sizes = {2, 3, 4, 5, 6, 7, 8, 2, 8, 3};
        for (int n : sizes) {
            check.isTrue("reset(" + n + ", 0, 1)", x.reset(n, 0, 1));
            check.equal("the first node", x.node(0, 0), 0);
            check.equal("the one before it", x.node(-1, 0), FlitTorus.NONE);
            check.equal("the last node", x.node(n * n - 1, 0), 0);
            check.equal("the one behind it", x.node(n * n, 0), FlitTorus.NONE);
            check.equal("distance(0, " + n + ")", x.distance(0, n), 1);
        }
    }

    private static void linksAreOpen(Check check) {
        check.sentence("Promise 2", "all links open");
        FlitTorus x = Nets.net(4, 0, 1);
        x.link(0, 0, false);
        x.link(5, 3, false);
        check.isTrue("reset(4, 0, 1)", x.reset(4, 0, 1));
        for (int node = 0; node < 16; node++) {
            for (int way = 0; way < 4; way++) {
                check.isFalse("it is open: link(" + node + ", " + way + ", true)", x.link(node, way, true));
            }
        }
        check.equal("distance(0, 1)", x.distance(0, 1), 1);
        check.equal("distance(5, 1)", x.distance(5, 1), 1);
    }

    /** Packets that wait, are under way, READY, in places, asked for and taken; and notes on their way. */
    private static FlitTorus crowded(int mode) {
        FlitTorus x = Nets.net(2, mode, 2);
        Nets.crowdedRun(x, 40);
        return x;
    }

    private static void nothingIsInIt(Check check) {
        check.sentence("Promise 2", "nothing in it");
        FlitTorus x = crowded(0);
        check.isTrue("flits are in the net", x.count(0) > 0);
        check.isTrue("some were asked for", x.count(4) > 0);
        check.isTrue("reset(2, 0, 2)", x.reset(2, 0, 2));
        check.counts(x, 0, 0, 0, 0, 0, 0);
        for (int node = 0; node < 4; node++) {
            check.node(x, node, 0, 0, 0, 0, 0, 0, 0, 0, 0);
            for (int line = 0; line < 4; line++) {
                check.noFlit(x, node, line);
            }
            check.taken(x, node, FlitTorus.NONE);
        }
        check.takeThrows(x, 0, IllegalStateException.class);
        check.isTrue("nothing is left that forbids link(0, 0, false)", x.link(0, 0, false));
        for (int i = 0; i < 30; i++) {
            check.cycles(x, 0);
        }
        check.node(x, 1, 0, 0, 0, 0, 0, 0, 0, 0, 0);
    }

    private static void noNoteIsLeft(Check check) {
        check.sentence("Promise 2", "nothing in it");
        FlitTorus x = Nets.net(8, 0, 9);
        x.put(0, 36, 1, 0);
        Nets.run(x, 9);
        // DONE was just sent from the farthest node.
        check.node(x, 36, 0, 0, 1);
        check.isTrue("reset(8, 0, 9)", x.reset(8, 0, 9));
        x.put(0, 36, 1, 0);
        for (int cycle = 0; cycle < 16; cycle++) {
            x.cycle();
            check.node(x, 0, 0, 1);
        }
        x.cycle();
        check.node(x, 0, 0, 0);
    }

    private static void turnNought(Check check) {
        check.sentence("Terms", "the TURN (0 at first)");
        FlitTorus x = Nets.crossing(2);
        Nets.run(x, 4);
        check.equal("count(5)", x.count(5), 7);
        check.isTrue("reset(5, 0, 2)", x.reset(5, 0, 2));
        check.equal("count(5)", x.count(5), 0);
    }

    private static void cycleNought(Check check) {
        check.sentence("Promise 2", "cycle 0");
        FlitTorus x = Nets.net(3, 0, 1);
        Nets.run(x, 25);
        check.equal("count(3)", x.count(3), 25);
        check.equal("golden(2)", x.golden(2), 1);
        check.isTrue("reset(3, 0, 1)", x.reset(3, 0, 1));
        check.equal("count(3)", x.count(3), 0);
        check.equal("golden(2)", x.golden(2), 0);
        x.put(0, 1, 1, 0);
        x.cycle();
        check.equal("its entry is 0: flit(1, 0, 4)", x.flit(1, 0, 4), 0);
    }

    private static void modesAndPatiences(Check check) {
        check.sentence("Promise 2", "a mode and a PATIENCE (1 .. 1000).");
        FlitTorus x = new FlitTorus();
        int[] patiences = {1, 2, 999, 1000};
        for (int patience : patiences) {
            for (int mode = 0; mode <= 1; mode++) {
                check.isTrue("reset(3, " + mode + ", " + patience + ")", x.reset(3, mode, patience));
                check.equal("mode " + mode + " closes links", x.link(0, 0, false) ? 1 : 0, 1 - mode);
            }
        }
        // The patience is the one told last: with 1 the node is starved in the second cycle, with 1000 in none.
        x = Nets.crossing(1);
        Nets.run(x, 4);
        check.equal("count(5)", x.count(5), 7);
        x = Nets.crossing(1000);
        Nets.run(x, 4);
        check.equal("count(5)", x.count(5), 0);
    }

    private static void wrongSize(Check check) {
        check.sentence("Promise 2", REFUSED);
        int[] wrong = {1, 9, 0, -1, -2, -8, 16, 64, Integer.MAX_VALUE, Integer.MIN_VALUE};
        for (int n : wrong) {
            FlitTorus x = Nets.net(3, 0, 1);
            check.isFalse("reset(" + n + ", 0, 1)", x.reset(n, 0, 1));
            check.equal("node(8, 0)", x.node(8, 0), 0);
            check.equal("node(9, 0)", x.node(9, 0), FlitTorus.NONE);
        }
    }

    private static void wrongMode(Check check) {
        check.sentence("Promise 2", REFUSED);
        int[] wrong = {-1, 2, 3, Integer.MAX_VALUE, Integer.MIN_VALUE};
        for (int mode : wrong) {
            FlitTorus x = Nets.net(3, 0, 1);
            check.isFalse("reset(2, " + mode + ", 1)", x.reset(2, mode, 1));
            check.equal("node(8, 0)", x.node(8, 0), 0);
        }
    }

    private static void wrongPatience(Check check) {
        check.sentence("Promise 2", REFUSED);
        int[] wrong = {0, 1001, -1, -1000, Integer.MAX_VALUE, Integer.MIN_VALUE};
        for (int patience : wrong) {
            for (int mode = 0; mode <= 1; mode++) {
                FlitTorus x = Nets.net(3, 0, 1);
                check.isFalse("reset(2, " + mode + ", " + patience + ")", x.reset(2, mode, patience));
                check.equal("node(8, 0)", x.node(8, 0), 0);
            }
        }
    }

    private static void refusedChangesNothing(Check check) {
        check.sentence("Promise 2", REFUSED);
        for (int mode = 0; mode <= 1; mode++) {
            List<Integer> due = Nets.crowdedRun(crowded(mode), 10);
            FlitTorus x = crowded(mode);
            x.reset(1, mode, 2);
            x.reset(9, 1 - mode, 5);
            x.reset(2, 2, 2);
            x.reset(3, -1, 1);
            x.reset(2, 1 - mode, 0);
            x.reset(4, 1 - mode, 1001);
            check.isTrue("mode " + mode + ": it goes on as if none had been", Nets.crowdedRun(x, 10).equals(due));
        }
        FlitTorus x = Nets.net(3, 0, 1);
        x.link(0, 0, false);
        x.reset(3, 1, 1001);
        check.isFalse("it is still closed: link(0, 0, false)", x.link(0, 0, false));
        check.isTrue("mode is still 0: link(0, 0, true)", x.link(0, 0, true));
    }
}
