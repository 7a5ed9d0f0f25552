/** Promise 12: distance. */
final class DistanceTest {
    public static void main(String[] args) {
        Check check = new Check("DistanceTest");
        check.run(DistanceTest::wholeNets, DistanceTest::toItself, DistanceTest::closedLinks,
                DistanceTest::twoLinksBetweenTheSameNodes, DistanceTest::greatest, DistanceTest::oneIsNoNode);
        check.end();
    }

    private static void wholeNets(Check check) {
        check.sentence("Promise 12", "d(a, b)");
        for (int n = 2; n <= 8; n++) {
            FlitTorus x = Nets.net(n, n % 2, 3);
            for (int i = 0; i < 400; i++) {
                int a = i * 7 % (n * n);
                int b = i * 11 / 3 % (n * n);
                int due = ring(a % n - b % n, n) + ring(a / n - b / n, n);
                check.equal("n " + n + ": distance(" + a + ", " + b + ")", x.distance(a, b), due);
            }
        }
    }

    private static int ring(int difference, int n) {
        int one = Math.floorMod(difference, n);
        return Math.min(one, n - one);
    }

    private static void toItself(Check check) {
        check.sentence("Promise 12", "d(a, b)");
        for (int n = 2; n <= 8; n++) {
            FlitTorus x = Nets.net(n, 0, 3);
            for (int node = 0; node < n * n; node++) {
                check.equal("distance(" + node + ", " + node + ")", x.distance(node, node), 0);
            }
        }
    }

    private static void closedLinks(Check check) {
        check.sentence("Promise 12", "d(a, b)");
        FlitTorus x = Nets.net(5, 0, 1);
        check.equal("distance(0, 1)", x.distance(0, 1), 1);
        x.link(0, 0, false);
        check.equal("round the closed link: distance(0, 1)", x.distance(0, 1), 3);
        check.equal("the same back: distance(1, 0)", x.distance(1, 0), 3);
        check.equal("distance(0, 2)", x.distance(0, 2), 3);
        check.equal("distance(5, 6)", x.distance(5, 6), 1);
        x.link(1, 1, true);
        check.equal("open again: distance(0, 1)", x.distance(0, 1), 1);
        check.equal("open again: distance(0, 2)", x.distance(0, 2), 2);
    }

    private static void twoLinksBetweenTheSameNodes(Check check) {
        check.sentence("Promise 12", "d(a, b)");
        FlitTorus x = Nets.net(2, 0, 1);
        x.link(0, 0, false);
        check.equal("over the other link: distance(0, 1)", x.distance(0, 1), 1);
        x.link(0, 1, false);
        check.equal("over neither link: distance(0, 1)", x.distance(0, 1), 3);
        check.equal("distance(3, 2)", x.distance(3, 2), 1);
    }

    private static void greatest(Check check) {
        check.sentence("Promise 12", "d(a, b)");
        FlitTorus x = Nets.net(8, 0, 1);
        check.equal("distance(0, 36)", x.distance(0, 36), 8);
        // The rows are joined by column 0 alone now.
        for (int y = 0; y < 8; y++) {
            for (int column = 1; column < 8; column++) {
                x.link(y * 8 + column, 2, false);
            }
        }
        check.equal("distance(4, 36)", x.distance(4, 36), 12);
        check.equal("distance(36, 4)", x.distance(36, 4), 12);
        check.equal("distance(4, 12)", x.distance(4, 12), 9);
    }

    private static void oneIsNoNode(Check check) {
        check.sentence("Promise 12", "NONE when one is no node.");
        for (int n = 2; n <= 8; n += 3) {
            FlitTorus x = Nets.net(n, 0, 1);
            int behind = n * n;
            check.isTrue("distance(0, " + (behind - 1) + ")", x.distance(0, behind - 1) > 0);
            check.equal("distance(0, " + behind + ")", x.distance(0, behind), FlitTorus.NONE);
            check.equal("distance(" + behind + ", 0)", x.distance(behind, 0), FlitTorus.NONE);
            check.equal("distance(" + behind + ", " + behind + ")", x.distance(behind, behind), FlitTorus.NONE);
            for (int no : Nets.NEVER_NODES) {
                check.equal("distance(" + no + ", 0)", x.distance(no, 0), FlitTorus.NONE);
                check.equal("distance(0, " + no + ")", x.distance(0, no), FlitTorus.NONE);
                check.equal("distance(" + no + ", " + no + ")", x.distance(no, no), FlitTorus.NONE);
            }
        }
    }
}
