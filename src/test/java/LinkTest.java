import java.util.List;

/** Promise 3: link. */
final class LinkTest {
    private static final String TWO_WAYS = "if, by closing, a node would have less than two open ways";
    private static final String IN_ONE = "or some nodes no way to one another.";

    public static void main(String[] args) {
        Check check = new Check("LinkTest");
        check.run(LinkTest::closedAndOpened, LinkTest::noSuchNode, LinkTest::noSuchWay, LinkTest::modeOne,
                LinkTest::soAlready, LinkTest::oneWaits, LinkTest::oneIsUnderWay, LinkTest::oneIsInASlot,
                LinkTest::atAnyNode, LinkTest::noteIsOnItsWay, LinkTest::readyOnesForbidNothing,
                LinkTest::twoWaysHere, LinkTest::twoWaysThere, LinkTest::openingHasNoLimit,
                LinkTest::smallestNetFallsApart, LinkTest::largerNetFallsApart, LinkTest::refusedChangesNothing);
        check.end();
    }

    private static void closedAndOpened(Check check) {
        check.sentence("Promise 3", "A link at a node is closed, or opened.");
        int[] others = {8, 6, 12, 2};
        for (int way = 0; way < 4; way++) {
            FlitTorus x = Nets.net(5, 0, 4);
            check.isTrue("close way " + way + " of 7", x.link(7, way, false));
            check.equal("distance(7, " + others[way] + ")", x.distance(7, others[way]), 3);
            check.isTrue("open way " + way + " of 7", x.link(7, way, true));
            check.equal("distance(7, " + others[way] + ")", x.distance(7, others[way]), 1);
        }
    }

    private static void noSuchNode(Check check) {
        check.sentence("Promise 3", "False, refused, when there is no such node");
        for (int n = 2; n <= 8; n += 3) {
            FlitTorus x = Nets.net(n, 0, 4);
            check.isFalse("link(" + n * n + ", 0, false)", x.link(n * n, 0, false));
            check.isTrue("link(" + (n * n - 1) + ", 0, false)", x.link(n * n - 1, 0, false));
            for (int no : Nets.NEVER_NODES) {
                check.isFalse("link(" + no + ", 0, false)", x.link(no, 0, false));
                check.isFalse("link(" + no + ", 1, true)", x.link(no, 1, true));
            }
        }
    }

    private static void noSuchWay(Check check) {
        check.sentence("Promise 3", "no such node or way");
        FlitTorus x = Nets.net(3, 0, 4);
        int[] noWays = {-1, 4, 5, Integer.MIN_VALUE, Integer.MAX_VALUE};
        for (int no : noWays) {
            check.isFalse("link(0, " + no + ", false)", x.link(0, no, false));
            check.isFalse("link(8, " + no + ", true)", x.link(8, no, true));
        }
        check.isTrue("link(0, 3, false)", x.link(0, 3, false));
    }

    private static void modeOne(Check check) {
        check.sentence("Promise 3", "mode is 1");
        FlitTorus x = Nets.net(3, 1, 4);
        for (int way = 0; way < 4; way++) {
            check.isFalse("link(0, " + way + ", false)", x.link(0, way, false));
            check.isFalse("link(0, " + way + ", true)", x.link(0, way, true));
        }
        check.equal("distance(0, 1)", x.distance(0, 1), 1);
        x.reset(3, 0, 4);
        check.isTrue("mode is 0 again: link(0, 0, false)", x.link(0, 0, false));
    }

    private static void soAlready(Check check) {
        check.sentence("Promise 3", "it is so already");
        FlitTorus x = Nets.net(3, 0, 4);
        check.isFalse("link(4, 2, true)", x.link(4, 2, true));
        check.isTrue("link(4, 2, false)", x.link(4, 2, false));
        check.isFalse("link(4, 2, false)", x.link(4, 2, false));
        check.isTrue("link(4, 2, true)", x.link(4, 2, true));
        check.isFalse("link(4, 2, true)", x.link(4, 2, true));
    }

    /** Neither can a link be closed, nor the one that is closed be opened. */
    private static void isForbidden(Check check, FlitTorus x, String why) {
        check.isFalse(why + ": link(4, 0, false)", x.link(4, 0, false));
        check.isFalse(why + ": link(8, 0, true)", x.link(8, 0, true));
    }

    private static FlitTorus withAClosedLink() {
        FlitTorus x = Nets.net(3, 0, 4);
        x.link(8, 0, false);
        return x;
    }

    private static void oneWaits(Check check) {
        check.sentence("Promise 3", "anything waits");
        FlitTorus x = withAClosedLink();
        x.put(0, 1, 1, 5);
        check.node(x, 0, 1, 0);
        isForbidden(check, x, "it waits");
    }

    private static void oneIsUnderWay(Check check) {
        check.sentence("Promise 3", "is under way");
        FlitTorus x = withAClosedLink();
        x.put(0, 1, 2, 5);
        x.cycle();
        check.node(x, 0, 0, 1);
        check.equal("count(0)", x.count(0), 1);
        isForbidden(check, x, "one of two has entered");
    }

    private static void oneIsInASlot(Check check) {
        check.sentence("Promise 3", "or in a slot");
        // All flits were received, and no note was sent: four are READY, and the places are full.
        FlitTorus x = withAClosedLink();
        Nets.fill(x, 0, 1);
        Nets.run(x, 5);
        check.node(x, 0, 0, 4);
        check.equal("count(0)", x.count(0), 0);
        isForbidden(check, x, "four are in slots");
    }

    private static void atAnyNode(Check check) {
        check.sentence("Promise 3", "at any node");
        for (int node = 0; node < 9; node++) {
            FlitTorus x = withAClosedLink();
            x.put(node, (node + 1) % 9, 1, 5);
            isForbidden(check, x, "one waits at " + node);
            x.cycle();
            isForbidden(check, x, "one is in a slot of " + node);
        }
    }

    private static void noteIsOnItsWay(Check check) {
        check.sentence("Promise 3", "or a note is on its way");
        FlitTorus x = withAClosedLink();
        x.put(0, 4, 1, 5);
        Nets.run(x, 3);
        // It is READY, two ways off, and so the note is told in the second cycle from now.
        check.takes(x, 4, 5);
        isForbidden(check, x, "the note was just sent");
        x.cycle();
        isForbidden(check, x, "the note has one cycle to go");
        x.cycle();
        check.isTrue("it was told: link(4, 0, false)", x.link(4, 0, false));
    }

    private static void readyOnesForbidNothing(Check check) {
        check.sentence("Promise 3", "anything waits, is under way, or in a slot, at any node, or a note is on its way");
        FlitTorus x = withAClosedLink();
        x.put(0, 1, 1, 5);
        Nets.run(x, 3);
        check.node(x, 1, 0, 0, 1, 0);
        check.node(x, 0, 0, 0);
        check.isTrue("link(4, 0, false)", x.link(4, 0, false));
        check.isTrue("link(8, 0, true)", x.link(8, 0, true));
        check.takes(x, 1, 5);
    }

    private static void twoWaysHere(Check check) {
        check.sentence("Promise 3", TWO_WAYS);
        FlitTorus x = Nets.net(4, 0, 4);
        check.isTrue("four, then three: link(5, 0, false)", x.link(5, 0, false));
        check.isTrue("three, then two: link(5, 1, false)", x.link(5, 1, false));
        check.isFalse("two, then one: link(5, 2, false)", x.link(5, 2, false));
        check.isFalse("two, then one: link(5, 3, false)", x.link(5, 3, false));
        check.equal("distance(5, 9)", x.distance(5, 9), 1);
        check.isTrue("link(5, 0, true)", x.link(5, 0, true));
        check.isTrue("three again: link(5, 2, false)", x.link(5, 2, false));
    }

    private static void twoWaysThere(Check check) {
        check.sentence("Promise 3", TWO_WAYS);
        FlitTorus x = Nets.net(4, 0, 4);
        x.link(5, 0, false);
        x.link(5, 1, false);
        // Nodes 9 and 1 have four ways, but node 5 at the other end has two.
        check.isFalse("link(9, 3, false)", x.link(9, 3, false));
        check.isFalse("link(1, 2, false)", x.link(1, 2, false));
        check.equal("distance(9, 5)", x.distance(9, 5), 1);
    }

    private static void openingHasNoLimit(Check check) {
        check.sentence("Promise 3", "by closing");
        FlitTorus x = Nets.net(2, 0, 4);
        x.link(0, 0, false);
        x.link(0, 1, false);
        check.isTrue("from two to three: link(0, 0, true)", x.link(0, 0, true));
        check.isTrue("from three to four: link(0, 1, true)", x.link(0, 1, true));
    }

    private static void smallestNetFallsApart(Check check) {
        check.sentence("Promise 3", IN_ONE);
        FlitTorus x = Nets.net(2, 0, 4);
        check.isTrue("link(0, 2, false)", x.link(0, 2, false));
        check.isTrue("link(0, 3, false)", x.link(0, 3, false));
        check.isTrue("link(1, 2, false)", x.link(1, 2, false));
        check.equal("distance(0, 2)", x.distance(0, 2), 3);
        // Both ends would keep two ways, but 0 and 1 would have none to 2 and 3.
        check.isFalse("link(1, 3, false)", x.link(1, 3, false));
        check.isFalse("from the other end: link(3, 2, false)", x.link(3, 2, false));
        check.equal("distance(0, 2)", x.distance(0, 2), 3);
        check.isFalse("it is still open: link(1, 3, true)", x.link(1, 3, true));
        check.isTrue("link(2, 2, true)", x.link(2, 2, true));
        check.isTrue("there is another way: link(1, 3, false)", x.link(1, 3, false));
    }

    /** The first column of 9 nodes is cut off link by link; its nodes keep their two ways to one another. */
    private static void largerNetFallsApart(Check check) {
        check.sentence("Promise 3", IN_ONE);
        FlitTorus x = Nets.net(3, 0, 4);
        for (int node = 0; node < 9; node += 3) {
            check.isTrue("link(" + node + ", 0, false)", x.link(node, 0, false));
        }
        check.isTrue("link(0, 1, false)", x.link(0, 1, false));
        check.isTrue("link(3, 1, false)", x.link(3, 1, false));
        check.equal("over the last one: distance(0, 2)", x.distance(0, 2), 3);
        check.isFalse("the last one: link(6, 1, false)", x.link(6, 1, false));
        check.isFalse("from the other end: link(8, 0, false)", x.link(8, 0, false));
        check.equal("distance(0, 2)", x.distance(0, 2), 3);
    }

    private static FlitTorus afterFirstSteps() {
        FlitTorus x = Nets.net(2, 0, 2);
        x.link(0, 2, false);
        x.link(0, 3, false);
        x.link(1, 2, false);
        return x;
    }

    private static void refusedChangesNothing(Check check) {
        check.sentence("Promise 3", "False, refused");
        List<Integer> due = Nets.crowdedRun(afterFirstSteps(), 30);
        FlitTorus x = afterFirstSteps();
        x.link(1, 3, false);
        x.link(0, 0, false);
        x.link(0, 2, false);
        x.link(1, 3, true);
        x.link(4, 0, false);
        x.link(0, 4, false);
        check.isTrue("it goes on as if none had been", Nets.crowdedRun(x, 30).equals(due));
    }
}
