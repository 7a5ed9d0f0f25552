/** Terms: the net, its ways and links, d, and the wanted ways. */
final class TermsNetTest {
    private static final int NONE = FlitTorus.NONE;
    private static final int[] BACK = {1, 0, 3, 2};

    public static void main(String[] args) {
        Check check = new Check("TermsNetTest");
        check.run(TermsNetTest::nodes, TermsNetTest::waysOverTheEdge, TermsNetTest::linksOverTheEdge,
                TermsNetTest::twoLinksBetweenTheSameNodes, TermsNetTest::distances, TermsNetTest::wantedWays);
        check.end();
    }

    private static void nodes(Check check) {
        check.sentence("Terms", "THE NET has n * n NODES, n 2 .. 8: node y * n + x.");
        for (int n = 2; n <= 8; n++) {
            FlitTorus x = Nets.net(n, n % 2, 1);
            for (int node = 0; node < n * n; node++) {
                check.equal("n " + n + ": node(" + node + ", 0)", x.node(node, 0), 0);
            }
            check.equal("n " + n + ": node(-1, 0)", x.node(-1, 0), NONE);
            check.equal("n " + n + ": node(" + n * n + ", 0)", x.node(n * n, 0), NONE);
            check.equal("x + 1: distance(0, 1)", x.distance(0, 1), 1);
            check.equal("y + 1: distance(0, " + n + ")", x.distance(0, n), 1);
            check.equal("both: distance(0, " + (n + 1) + ")", x.distance(0, n + 1), 2);
        }
    }

    /** The node number i of the edge from which a way leads over it. */
    private static int edge(int n, int way, int i) {
        return new int[] {i * n + n - 1, i * n, (n - 1) * n + i, i}[way];
    }

    private static void waysOverTheEdge(Check check) {
        check.sentence("Terms", "WAYS of a node: 0 to x + 1, 1 to x - 1, 2 to y + 1, 3 to y - 1 (by n: the rest).");
        for (int n = 2; n <= 8; n++) {
            for (int way = 0; way < 4; way++) {
                for (int i = 0; i < n; i++) {
                    int from = edge(n, way, i);
                    int to = edge(n, BACK[way], i);
                    FlitTorus x = Nets.net(n, 0, 1);
                    if (n == 2) {
                        // The other way leads to the same node, so it has to be closed.
                        x.link(from, BACK[way], false);
                    }
                    x.put(from, to, 1, 0);
                    x.cycle();
                    check.equal("n " + n + ", way " + way + " of " + from + ": flit(" + to + ", " + way + ", 0)",
                            x.flit(to, way, 0), from);
                }
            }
        }
    }

    private static void linksOverTheEdge(Check check) {
        check.sentence("Terms", "A LINK goes both ways (way 0 here and way 1 there, way 2 here and way 3 there)"
                + " and is open, or closed for both.");
        for (int n = 2; n <= 8; n++) {
            for (int way = 0; way < 4; way++) {
                FlitTorus x = Nets.net(n, 0, 1);
                int here = edge(n, way, n - 1);
                int there = edge(n, BACK[way], n - 1);
                String at = "n " + n + ", way " + way + " of " + here + ": ";
                check.isTrue(at + "close", x.link(here, way, false));
                check.isFalse(at + "it is closed there", x.link(there, BACK[way], false));
                check.isTrue(at + "open there", x.link(there, BACK[way], true));
                check.isFalse(at + "it is open here", x.link(here, way, true));
                check.isTrue(at + "close there", x.link(there, BACK[way], false));
                check.isFalse(at + "it is closed here", x.link(here, way, false));
            }
        }
    }

    private static void twoLinksBetweenTheSameNodes(Check check) {
        check.sentence("Terms", "is open, or closed for both.");
        FlitTorus x = Nets.net(2, 0, 1);
        check.isTrue("link(0, 0, false)", x.link(0, 0, false));
        check.isFalse("its other end: link(1, 1, false)", x.link(1, 1, false));
        check.isFalse("the other link is open: link(0, 1, true)", x.link(0, 1, true));
        check.equal("distance(0, 1)", x.distance(0, 1), 1);
        check.isTrue("the other link: link(1, 0, false)", x.link(1, 0, false));
        check.isFalse("its other end: link(0, 1, false)", x.link(0, 1, false));
        check.equal("distance(0, 1)", x.distance(0, 1), 3);
    }

    private static void distances(Check check) {
        check.sentence("Terms", "d(a, b) is the least number of open ways from a to b.");
        for (int n = 2; n <= 8; n++) {
            FlitTorus x = Nets.net(n, 0, 1);
            String at = "n " + n + ": ";
            check.equal(at + "to itself", x.distance(n, n), 0);
            check.equal(at + "over the edge of x", x.distance(0, n - 1), 1);
            check.equal(at + "over the edge of y", x.distance(0, n * n - n), 1);
            check.equal(at + "over both edges", x.distance(0, n * n - 1), 2);
            check.equal(at + "half way round both rings", x.distance(0, n / 2 * n + n / 2), n / 2 * 2);
            x.link(0, 1, false);
            int due = n == 2 ? 1 : n == 3 ? 2 : 3;
            check.equal(at + "over the edge, which is closed", x.distance(0, n - 1), due);
            check.equal(at + "and back", x.distance(n - 1, 0), due);
        }
    }

    private static void wantedWays(Check check) {
        check.sentence("Terms", "A node's way is WANTED for a goal, if it is open and leads nearer to it.");
        // Way 0 leads to the goal, but is closed; ways 1, 2 and 3 lead nearer to it.
        FlitTorus x = Nets.net(4, 0, 9);
        x.link(0, 0, false);
        x.put(0, 1, 1, 0);
        x.cycle();
        check.flit(x, 3, 1, 0);
        check.equal("count(1)", x.count(1), 0);
        // Half way round a ring both ways lead nearer: the older one gets way 2, the other one way 3.
        x = Nets.net(4, 0, 9);
        x.put(2, 9, 1, 0);
        x.cycle();
        x.put(1, 9, 1, 0);
        x.cycle();
        check.flit(x, 5, 2, 2);
        check.flit(x, 13, 3, 1);
        check.equal("neither is deflected: count(1)", x.count(1), 0);
        // From 1 way 1 leads to a node that is as far from 2 as 1 is: not nearer, so not wanted.
        x = Nets.net(3, 0, 9);
        x.link(4, 0, false);
        x.put(4, 2, 1, 0);
        x.cycle();
        x.put(1, 2, 1, 0);
        x.cycle();
        check.flit(x, 2, 0, 4);
        check.flit(x, 0, 1, 1);
        check.equal("count(1)", x.count(1), 1);
        // At its goal a flit wants no way: the third one that comes can't leave.
        x = Nets.net(3, 0, 9);
        x.put(5, 4, 1, 0);
        x.put(3, 4, 1, 0);
        x.put(1, 4, 1, 0);
        x.cycle();
        check.equal("count(1)", x.count(1), 0);
        check.cycles(x, 1);
        check.equal("count(1)", x.count(1), 1);
    }
}
