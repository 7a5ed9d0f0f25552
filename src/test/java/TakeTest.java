import java.util.List;

/** Promise 6: take. */
final class TakeTest {
    public static void main(String[] args) {
        Check check = new Check("TakeTest");
        check.run(TakeTest::firstReadyOne, TakeTest::tags, TakeTest::lowestFullOneJoins, TakeTest::oneJoinsAtMost,
                TakeTest::noneHasAll, TakeTest::noSuchNode, TakeTest::noneIsReady, TakeTest::noneIsReadyYet,
                TakeTest::allAreTaken, TakeTest::throwingChangesNothing);
        check.end();
    }

    private static void firstReadyOne(Check check) {
        check.sentence("Promise 6", "The first one that is READY at a node is taken: its tag.");
        FlitTorus x = Nets.net(4, 0, 3);
        x.put(1, 0, 4, 100);
        x.put(3, 0, 2, -300);
        x.put(4, 0, 1, 400);
        Nets.run(x, 8);
        // The one of node 4 was the third for its goal in cycle 1, and had to go round once.
        for (int left = 3; left > 0; left--) {
            check.equal("node(0, 2)", x.node(0, 2), left);
            check.takes(x, 0, left == 3 ? -300 : left == 2 ? 400 : 100);
        }
        check.equal("node(0, 2)", x.node(0, 2), 0);
    }

    private static void tags(Check check) {
        check.sentence("Promise 6", "is taken: its tag.");
        int[] tags = {Integer.MIN_VALUE, Integer.MAX_VALUE, -1, 0};
        FlitTorus x = new FlitTorus();
        for (int tag : tags) {
            x.put(0, 1, 1, tag);
        }
        Nets.run(x, 5);
        check.takes(x, 1, tags);
    }

    private static void lowestFullOneJoins(Check check) {
        check.sentence("Promise 6", "A place that has all flits may join the READY ones then (the lowest).");
        FlitTorus x = Nets.net(3, 0, 9);
        Nets.fill(x, 0, 1);
        for (int tag = 1; tag <= 8; tag++) {
            check.node(x, 1, 0, 0, Math.min(4, 9 - tag), Math.max(0, 5 - tag));
            check.takes(x, 1, tag);
        }
        check.node(x, 1, 0, 0, 0, 0);
    }

    private static void oneJoinsAtMost(Check check) {
        check.sentence("Promise 6", "A place that has all flits may join the READY ones then (the lowest).");
        FlitTorus x = Nets.net(3, 0, 9);
        Nets.fill(x, 0, 1);
        check.node(x, 0, 0, 4);
        check.takes(x, 1, 1);
        check.node(x, 1, 0, 0, 4, 3);
        // One note DONE was sent; it is told in the second cycle from now.
        Nets.run(x, 1);
        check.node(x, 0, 0, 4);
        Nets.run(x, 1);
        check.node(x, 0, 0, 3);
        Nets.run(x, 3);
        check.node(x, 0, 0, 3);
        // Place 0 is empty and 1 is the lowest that is full; what comes into place 0 is before 7 and 8 then.
        check.takes(x, 1, 2);
        Nets.send(x, 0, 1, 1, 9);
        x.cycle();
        check.takes(x, 1, 3, 4, 5, 6, 9, 7, 8);
    }

    private static void noneHasAll(Check check) {
        check.sentence("Promise 6", "A place that has all flits");
        FlitTorus x = Nets.net(3, 0, 9);
        Nets.send(x, 0, 1, 4, 1);
        x.put(0, 1, 2, 5);
        Nets.run(x, 2);
        check.node(x, 1, 0, 0, 4, 1);
        check.takes(x, 1, 1);
        check.node(x, 1, 0, 0, 3, 1);
        x.cycle();
        check.node(x, 1, 0, 0, 4, 0);
        check.takes(x, 1, 2, 3, 4, 5);
    }

    private static void noSuchNode(Check check) {
        check.sentence("Promise 6", "IllegalArgumentException: there is no such node;");
        int[] sizes = {8, 2, 3};
        FlitTorus x = new FlitTorus();
        for (int n : sizes) {
            x.reset(n, 0, 1);
            check.takeThrows(x, n * n, IllegalArgumentException.class);
            check.takeThrows(x, n * n - 1, IllegalStateException.class);
            for (int no : Nets.NEVER_NODES) {
                check.takeThrows(x, no, IllegalArgumentException.class);
            }
        }
    }

    private static void noneIsReady(Check check) {
        check.sentence("Promise 6", "IllegalStateException: none is ready.");
        FlitTorus x = Nets.net(3, 0, 1);
        for (int node = 0; node < 9; node++) {
            check.takeThrows(x, node, IllegalStateException.class);
        }
    }

    private static void noneIsReadyYet(Check check) {
        check.sentence("Promise 6", "IllegalStateException: none is ready.");
        FlitTorus x = Nets.net(3, 0, 1);
        x.put(0, 1, 2, 7);
        for (int cycle = 0; cycle < 3; cycle++) {
            check.takeThrows(x, 1, IllegalStateException.class);
            x.cycle();
        }
        check.takeThrows(x, 0, IllegalStateException.class);
        check.takes(x, 1, 7);
    }

    private static void allAreTaken(Check check) {
        check.sentence("Promise 6", "IllegalStateException: none is ready.");
        FlitTorus x = Nets.net(3, 0, 1);
        Nets.send(x, 0, 1, 1, 7);
        x.cycle();
        check.takes(x, 1, 7);
        check.takeThrows(x, 1, IllegalStateException.class);
        check.taken(x, 1, 0, 1, 1);
    }

    private static void throwingChangesNothing(Check check) {
        check.sentence("Promise 6", "IllegalArgumentException: there is no such node;"
                + " IllegalStateException: none is ready.");
        FlitTorus x = Nets.net(2, 0, 2);
        Nets.crowdedRun(x, 6);
        List<Integer> due = Nets.crowdedRun(x, 30);
        x = Nets.net(2, 0, 2);
        Nets.crowdedRun(x, 6);
        for (int node = 1; node <= 5; node++) {
            check.takeThrows(x, node, node < 4 ? IllegalStateException.class : IllegalArgumentException.class);
        }
        check.isTrue("it goes on as if none had been", Nets.crowdedRun(x, 30).equals(due));
    }
}
