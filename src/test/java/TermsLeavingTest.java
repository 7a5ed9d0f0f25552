/** Terms: the cycle's step 2, in which flits leave at their goals, and what stands before it. */
final class TermsLeavingTest {
    private static final String STEP = "of the flits whose goal it is the two of highest RANK (or the one) leave,"
            + " the higher one first, each RECEIVED.";

    public static void main(String[] args) {
        Check check = new Check("TermsLeavingTest");
        check.run(TermsLeavingTest::fourAtEach, TermsLeavingTest::oneToFourCome, TermsLeavingTest::goldenOneFirst,
                TermsLeavingTest::inRisingOrder, TermsLeavingTest::othersStay);
        check.end();
    }

    private static void fourAtEach(Check check) {
        check.sentence("Terms", "FLITS are at nodes, at most four at each.");
        FlitTorus x = Nets.cross(Nets.net(5, 0, 9), 4);
        check.equal("node(12, 5)", x.node(12, 5), 4);
        for (int mode = 0; mode <= 1; mode++) {
            x = Nets.net(2, mode, 3);
            int most = 0;
            for (int cycle = 0; cycle < 30; cycle++) {
                for (int node = 1; node < 4; node++) {
                    x.put(node, 0, 8, 0);
                }
                x.cycle();
                int all = 0;
                for (int node = 0; node < 4; node++) {
                    int there = x.node(node, 5);
                    check.isTrue("node(" + node + ", 5) is " + there, there >= 0 && there <= 4);
                    most = Math.max(most, there);
                    all += there;
                }
                check.equal("count(0)", x.count(0), all);
            }
            check.equal("four were seen at a node", most, 4);
        }
    }

    /** From the four nodes beside node 12 of 25, all in one cycle. */
    private static void oneToFourCome(Check check) {
        check.sentence("Terms", STEP);
        int[] from = {17, 13, 11, 7};
        for (int come = 0; come <= 4; come++) {
            FlitTorus x = Nets.net(5, 0, 9);
            for (int i = 0; i < come; i++) {
                x.put(from[i], 12, 1, from[i]);
            }
            check.cycles(x, come, Math.max(0, come - 2));
            check.equal(come + " have come: count(2)", x.count(2), Math.min(2, come));
            check.equal(come + " have come: node(12, 2)", x.node(12, 2), Math.min(2, come));
            // Those that could not leave go one way off and come back.
            check.cycles(x, Math.max(0, come - 2), 0);
            check.equal(come + " have come: count(2)", x.count(2), come);
            int[][] due = {{}, {17}, {13, 17}, {11, 13, 17}, {7, 11, 13, 17}};
            check.takes(x, 12, due[come]);
        }
    }

    private static void goldenOneFirst(Check check) {
        check.sentence("Terms", "the two of highest RANK (or the one) leave, the higher one first");
        FlitTorus x = Nets.net(5, 0, 9);
        x.put(3, 1, 1, 3);
        x.put(11, 1, 1, 11);
        x.cycle();
        // Flit 0 of slot 0 of node 0 is golden till cycle 23: it leaves first, then the lesser source of the others.
        x.put(0, 1, 1, 100);
        check.cycles(x, 3);
        check.equal("node(1, 5)", x.node(1, 5), 3);
        check.cycles(x, 1);
        check.takes(x, 1, 100, 3);
        check.takeThrows(x, 1, IllegalStateException.class);
    }

    /**
     * In one cycle nodes 11 and 13 both come to have an empty place and send GO to node 12 between
     * them: node 11 does so first, though its packet is in the higher slot.
     */
    private static void inRisingOrder(Check check) {
        check.sentence("Terms", "2. At each node, in rising order:");
        FlitTorus x = Nets.net(5, 0, 9);
        crowd(x, 10, 11);
        crowd(x, 14, 13);
        x.put(12, 13, 1, 213);
        x.put(12, 11, 1, 211);
        Nets.run(x, 3);
        check.node(x, 11, 0, 0, 4, 4, 5);
        check.node(x, 13, 0, 0, 4, 4, 5);
        check.takes(x, 13, 1, 2, 3, 4, 5, 6, 7, 8);
        check.takes(x, 11, 1, 2, 3, 4, 5, 6, 7, 8);
        check.node(x, 11, 0, 0, 0, 4, 1);
        check.cycles(x, 0, 2);
        check.node(x, 11, 0, 0, 0, 4, 1);
        check.node(x, 13, 0, 0, 0, 4, 1);
        check.cycles(x, 2);
        check.node(x, 11, 0, 0, 1, 4, 0);
        check.node(x, 13, 0, 0, 1, 4, 0);
        check.cycles(x, 3);
        check.flit(x, 11, 1, 12, 1, 0, 11);
        check.noFlit(x, 13, 0);
        check.equal("node(12, 8)", x.node(12, 8), 1);
        check.cycles(x, 3);
        check.flit(x, 13, 0, 12, 0, 0, 13);
    }

    /** Eight fill the goal, and four more are lost there. */
    private static void crowd(FlitTorus x, int from, int goal) {
        Nets.send(x, from, goal, 12, 1);
        x.cycle();
    }

    private static void othersStay(Check check) {
        check.sentence("Terms", "of the flits whose goal it is");
        FlitTorus x = Nets.cross(Nets.net(5, 0, 9), 4);
        check.cycles(x, 4);
        check.equal("none had node 12 as its goal: count(2)", x.count(2), 0);
        check.cycles(x, 0);
        check.equal("count(2)", x.count(2), 4);
    }
}
