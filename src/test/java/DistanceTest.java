/** Promise 12: distance. */
final class DistanceTest {
    public static void main(String[] args) {
        Check check = new Check("DistanceTest");
        wholeNets(check);
        closedLinks(check);
        noNodes(check);
        check.end();
    }

    private static void wholeNets(Check check) {
        for (int n = 2; n <= 8; n++) {
            FlitTorus x = new FlitTorus();
            x.reset(n, n % 2, 3);
            for (int i = 0; i < 400; i++) {
                int a = i * 7 % (n * n);
                int b = i * 11 / 3 % (n * n);
                int due = ring(a % n - b % n, n) + ring(a / n - b / n, n);
                check.equal("n " + n + ": distance(" + a + ", " + b + ")", x.distance(a, b), due);
            }
        }
    }

    private static int ring(int difference, int n) {
        int one = Math.floorMod(difference, n);
        return Math.min(one, n - one);
    }

    private static void closedLinks(Check check) {
        FlitTorus x = new FlitTorus();
        x.reset(5, 0, 1);
        check.equal("distance(0, 1)", x.distance(0, 1), 1);
        x.link(0, 0, false);
        check.equal("round the closed link: distance(0, 1)", x.distance(0, 1), 3);
        check.equal("the same back: distance(1, 0)", x.distance(1, 0), 3);
        check.equal("distance(0, 2)", x.distance(0, 2), 3);
        check.equal("distance(5, 6)", x.distance(5, 6), 1);
        x.link(1, 1, true);
        check.equal("open again: distance(0, 1)", x.distance(0, 1), 1);
        check.equal("open again: distance(0, 2)", x.distance(0, 2), 2);

        // In the smallest net two links go between the same two nodes.
        x.reset(2, 0, 1);
        x.link(0, 0, false);
        check.equal("over the other link: distance(0, 1)", x.distance(0, 1), 1);
        x.link(0, 1, false);
        check.equal("over neither link: distance(0, 1)", x.distance(0, 1), 3);
        check.equal("distance(3, 2)", x.distance(3, 2), 1);
    }

    private static void noNodes(Check check) {
        FlitTorus x = new FlitTorus();
        x.reset(3, 0, 1);
        check.equal("distance(4, 4)", x.distance(4, 4), 0);
        int[] noNodes = {-1, 9, 64, Integer.MIN_VALUE, Integer.MAX_VALUE};
        for (int no : noNodes) {
            check.equal("distance(" + no + ", 0)", x.distance(no, 0), FlitTorus.NONE);
            check.equal("distance(0, " + no + ")", x.distance(0, no), FlitTorus.NONE);
            check.equal("distance(" + no + ", " + no + ")", x.distance(no, no), FlitTorus.NONE);
        }
    }
}
