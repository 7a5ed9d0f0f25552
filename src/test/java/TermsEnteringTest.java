/** Terms: the cycle's step 3, in which flits enter, and step 4, in which all go on. */
final class TermsEnteringTest {
    private static final String FEWER = "if fewer flits are there than it has open ways";

    public static void main(String[] args) {
        Check check = new Check("TermsEnteringTest");
        check.run(TermsEnteringTest::oneACycle, TermsEnteringTest::fourOpenWays, TermsEnteringTest::threeOpenWays,
                TermsEnteringTest::twoOpenWays, TermsEnteringTest::roomByLeaving,
                TermsEnteringTest::nextOfThePacketUnderWay, TermsEnteringTest::notUnderWayInThisTry,
                TermsEnteringTest::againBeforeWaiting, TermsEnteringTest::againWithAFlitInTheNet,
                TermsEnteringTest::firstOfTheRowAlone, TermsEnteringTest::waitingThoughAgainCannot,
                TermsEnteringTest::waitingWithoutASlot, TermsEnteringTest::againWithoutAFreeSlot,
                TermsEnteringTest::entryIsTheCycle, TermsEnteringTest::waysOfAll);
        check.end();
    }

    private static void oneACycle(Check check) {
        check.sentence("Terms", "3. At each node one flit may ENTER");
        FlitTorus x = Nets.net(5, 0, 9);
        for (int goal = 1; goal <= 4; goal++) {
            x.put(0, goal, 1, 0);
        }
        check.cycles(x, 1);
        check.node(x, 0, 3, 1);
        x.put(24, 0, 1, 0);
        // Packet 1 has come; one more enters here, and one there.
        check.cycles(x, 2);
        check.node(x, 0, 2);
        check.node(x, 24, 0);
    }

    /** Whether a flit enters at node 12 beside those that came there. */
    private static void enters(Check check, FlitTorus x, int there, boolean due) {
        check.equal("node(12, 5)", x.node(12, 5), there);
        x.put(12, 14, 1, 9);
        x.cycle();
        check.equal("beside " + there + " flits: node(12, 0)", x.node(12, 0), due ? 0 : 1);
        check.equal("beside " + there + " flits: node(12, 7)", x.node(12, 7), due ? 0 : 1);
    }

    private static void fourOpenWays(Check check) {
        check.sentence("Terms", FEWER);
        for (int mode = 0; mode <= 1; mode++) {
            for (int there = 0; there <= 4; there++) {
                enters(check, Nets.cross(Nets.net(5, mode, 9), there), there, there < 4);
            }
        }
    }

    private static void threeOpenWays(Check check) {
        check.sentence("Terms", FEWER);
        for (int there = 2; there <= 3; there++) {
            FlitTorus x = Nets.net(5, 0, 9);
            x.link(12, 3, false);
            // So that the way from 17 to 11 leads through 12.
            x.link(17, 0, false);
            x.link(17, 1, false);
            if (there == 3) {
                x.put(17, 11, 1, 0);
            }
            enters(check, Nets.cross(x, 2), there, there < 3);
        }
    }

    private static void twoOpenWays(Check check) {
        check.sentence("Terms", FEWER);
        for (int there = 0; there <= 2; there++) {
            FlitTorus x = Nets.net(5, 0, 9);
            x.link(12, 2, false);
            x.link(12, 3, false);
            enters(check, Nets.cross(x, there), there, there < 2);
        }
    }

    private static void roomByLeaving(Check check) {
        check.sentence("Terms", "At each node one flit may ENTER, if fewer flits are there than it has open ways");
        FlitTorus x = Nets.net(5, 0, 9);
        x.put(17, 12, 1, 0);
        enters(check, Nets.cross(x, 3), 4, true);
    }

    private static void nextOfThePacketUnderWay(Check check) {
        check.sentence("Terms", "of the packet that is under way there (some of its flits have entered, but not all,"
                + " in this try): its next one");
        FlitTorus x = Nets.net(3, 0, 9);
        x.put(0, 1, 3, 0);
        x.put(0, 1, 1, 0);
        int[][] due = {{0, 0, 0}, {0, 0, 1}, {0, 0, 2}, {0, 1, 0}};
        for (int[] flit : due) {
            x.cycle();
            check.flit(x, 1, 0, flit);
            check.equal("node(0, 0)", x.node(0, 0), flit[1] == 0 ? 1 : 0);
        }
        x.cycle();
        check.noFlit(x, 1, 0);
    }

    /**
     * A packet of eight flits goes from node 0 to node 2 of 25. Flits 0, 1 and 2 have entered, flit
     * 0 was lost; the cycle to come is 12, and GO is due in cycle 14.
     */
    private static FlitTorus goComesWhileUnderWay() {
        FlitTorus x = Nets.net(5, 0, 9);
        Nets.fill(x, 7, 2);
        x.put(0, 2, 8, 100);
        Nets.run(x, 3);
        x.take(2);
        return x;
    }

    private static void notUnderWayInThisTry(Check check) {
        check.sentence("Terms", "(some of its flits have entered, but not all, in this try)");
        FlitTorus x = goComesWhileUnderWay();
        check.cycles(x, 2, 2);
        check.flit(x, 1, 0, 0, 0, 4, 2, 13, 1);
        check.equal("node(0, 8)", x.node(0, 8), 0);
        // GO: flits 5, 6 and 7 of the first try never enter; when flit 4 has left, flit 0 enters again.
        check.cycles(x, 1);
        check.noFlit(x, 1, 0);
        check.equal("node(0, 8)", x.node(0, 8), 1);
        for (int number = 0; number < 8; number++) {
            x.cycle();
            check.flit(x, 1, 0, 0, 0, number, 2, 15 + number, 2);
        }
        x.cycle();
        check.noFlit(x, 1, 0);
        x.cycle();
        check.equal("8 of the others, 5 lost and 8 more: count(2)", x.count(2), 21);
    }

    private static void againBeforeWaiting(Check check) {
        check.sentence("Terms", "else flit 0 of the first one of the row AGAIN, if no flit of that packet is in"
                + " the net");
        FlitTorus x = Nets.net(5, 0, 9);
        Nets.fill(x, 6, 1);
        Nets.send(x, 0, 1, 1, 100);
        x.cycle();
        x.take(1);
        x.cycle();
        x.put(0, 5, 1, 200);
        // GO is told now.
        x.cycle();
        check.flit(x, 1, 0, 0, 0, 0, 1, 12, 2);
        check.node(x, 0, 1);
        x.cycle();
        check.flit(x, 5, 2, 0, 1, 0, 5, 13, 1);
        check.node(x, 0, 0);
    }

    private static void againWithAFlitInTheNet(Check check) {
        check.sentence("Terms", "if no flit of that packet is in the net");
        FlitTorus x = goComesWhileUnderWay();
        Nets.run(x, 2);
        // Flit 4 of the first try is at node 1: nothing can enter, and node 0 is not hungry for that.
        check.cycles(x, 1);
        check.node(x, 0, 0, 1, 0, 0, 0, 0, 5, 0, 1);
        // It leaves in step 2, and so flit 0 enters in step 3 of the same cycle.
        check.cycles(x, 1);
        check.node(x, 0, 0, 1, 0, 0, 0, 0, 6, 0, 0);
        check.flit(x, 1, 0, 0, 0, 0, 2, 15, 2);
    }

    private static void firstOfTheRowAlone(Check check) {
        check.sentence("Terms", "flit 0 of the first one of the row AGAIN");
        FlitTorus x = Nets.net(5, 0, 9);
        Nets.fill(x, 7, 2);
        Nets.fill(x, 10, 5);
        x.put(0, 5, 1, 200);
        Nets.run(x, 2);
        x.put(0, 2, 8, 100);
        Nets.run(x, 3);
        x.take(2);
        x.cycle();
        x.take(5);
        x.cycle();
        check.equal("node(0, 8)", x.node(0, 8), 0);
        // Both notes are told. Of the first one of the row a flit is in the net; of the second none is.
        check.cycles(x, 1);
        check.node(x, 0, 0, 2, 0, 0, 0, 0, 6, 0, 2);
        for (int number = 0; number < 8; number++) {
            x.cycle();
            check.flit(x, 1, 0, 0, 1, number, 2);
            check.equal("node(0, 8)", x.node(0, 8), 1);
        }
        x.cycle();
        check.flit(x, 5, 2, 0, 0, 0, 5);
        check.equal("node(0, 8)", x.node(0, 8), 0);
    }

    private static void waitingThoughAgainCannot(Check check) {
        check.sentence("Terms", "else (also when some is) flit 0 of the first one that waits");
        FlitTorus x = goComesWhileUnderWay();
        x.put(0, 5, 2, 200);
        Nets.run(x, 2);
        check.node(x, 0, 1);
        check.cycles(x, 2);
        check.flit(x, 5, 2, 0, 1, 0, 5, 14, 1);
        check.node(x, 0, 0, 2, 0, 0, 0, 0, 6, 0, 1);
        // It is under way now, and so goes before the row.
        x.cycle();
        check.flit(x, 5, 2, 0, 1, 1, 5, 15, 1);
        check.equal("node(0, 8)", x.node(0, 8), 1);
        x.cycle();
        check.flit(x, 1, 0, 0, 0, 0, 2, 16, 2);
        check.equal("node(0, 8)", x.node(0, 8), 0);
    }

    private static void waitingWithoutASlot(Check check) {
        check.sentence("Terms", "flit 0 of the first one that waits, if a slot is free.");
        FlitTorus x = Nets.net(8, 0, 1);
        Nets.send(x, 0, 36, 7, 0);
        check.node(x, 0, 0, 7);
        x.put(0, 36, 1, 7);
        x.put(0, 36, 1, 8);
        x.cycle();
        check.node(x, 0, 1, 8);
        for (int cycle = 8; cycle < 16; cycle++) {
            x.cycle();
            check.node(x, 0, 1, 8, 0, 0, 0, 0, 8, 0, 0);
        }
        x.cycle();
        check.node(x, 0, 0, 8);
    }

    private static void againWithoutAFreeSlot(Check check) {
        check.sentence("Terms", "flit 0 of the first one of the row AGAIN, if no flit of that packet is in the net");
        FlitTorus x = Nets.net(3, 0, 9);
        Nets.fill(x, 2, 1);
        Nets.send(x, 0, 1, 8, 11);
        x.put(0, 1, 1, 19);
        Nets.run(x, 2);
        check.node(x, 0, 1, 8);
        check.takes(x, 1, 1);
        check.cycles(x, 0, 1);
        check.flit(x, 1, 0, 0, 0, 0, 1, 20, 2);
        check.node(x, 0, 1, 8);
    }

    private static void entryIsTheCycle(Check check) {
        check.sentence("Terms", "Its ENTRY is this cycle.");
        FlitTorus x = Nets.net(8, 0, 9);
        x.put(0, 3, 2, 0);
        x.cycle();
        x.cycle();
        check.flit(x, 2, 0, 0, 0, 0, 3, 0);
        check.flit(x, 1, 0, 0, 0, 1, 3, 1);
        x.cycle();
        check.flit(x, 3, 0, 0, 0, 0, 3, 0);
    }

    private static void waysOfAll(Check check) {
        check.sentence("Terms", "4. At each node all flits there get different open ways, and go over them;"
                + " they are at the next nodes then.");
        // Four at a node of four open ways: two want way 0.
        FlitTorus x = Nets.net(5, 0, 9);
        x.put(17, 7, 1, 0);
        x.put(11, 13, 1, 0);
        x.put(7, 17, 1, 0);
        x.cycle();
        x.put(12, 13, 1, 0);
        check.cycles(x, 4);
        check.flit(x, 13, 0, 11);
        check.flit(x, 11, 1, 12);
        check.flit(x, 17, 2, 7);
        check.flit(x, 7, 3, 17);
        // Two at a node of two open ways: both want way 0, and way 1 is closed.
        x = Nets.net(5, 0, 9);
        x.link(12, 1, false);
        x.link(12, 3, false);
        x.link(17, 0, false);
        x.put(17, 13, 1, 0);
        x.cycle();
        x.put(12, 13, 1, 0);
        check.cycles(x, 2);
        check.flit(x, 13, 0, 17);
        check.flit(x, 17, 2, 12);
    }
}
