/** Promise 9: node. */
final class NodeTest {
    public static void main(String[] args) {
        Check check = new Check("NodeTest");
        check.run(NodeTest::wayOfAPacket, NodeTest::packetsThatWait, NodeTest::slotsNotFree, NodeTest::packetsReady,
                NodeTest::placesNotEmpty, NodeTest::rowOfThoseAskedFor, NodeTest::flitsThere,
                NodeTest::flitsThatWentOut, NodeTest::latestHungryCycles, NodeTest::rowAgain, NodeTest::noSuchNode,
                NodeTest::noSuchWhat);
        check.end();
    }

    private static void wayOfAPacket(Check check) {
        check.sentence("Promise 9", "Of a node: packets that wait (what 0), slots that are not free (1), packets READY"
                + " (2), places that aren't empty (3), packets in its row of those asked for (4), flits there (5)");
        FlitTorus x = Nets.net(4, 0, 9);
        x.put(0, 2, 2, 1);
        x.put(0, 2, 1, 2);
        check.node(x, 0, 2, 0, 0, 0, 0, 0, 0, 0, 0);
        x.cycle();
        check.node(x, 0, 1, 1, 0, 0, 0, 0, 1, 0, 0);
        check.node(x, 1, 0, 0, 0, 0, 0, 1, 0, 0, 0);
        x.cycle();
        check.node(x, 0, 1, 1, 0, 0, 0, 0, 2, 0, 0);
        check.node(x, 1, 0, 0, 0, 0, 0, 1, 1, 0, 0);
        check.node(x, 2, 0, 0, 0, 0, 0, 1, 0, 0, 0);
        x.cycle();
        check.node(x, 0, 0, 2, 0, 0, 0, 0, 3, 0, 0);
        check.node(x, 2, 0, 0, 0, 1, 0, 1, 0, 0, 0);
        x.cycle();
        check.node(x, 1, 0, 0, 0, 0, 0, 0, 3, 0, 0);
        check.node(x, 2, 0, 0, 1, 0, 0, 1, 0, 0, 0);
        x.cycle();
        check.node(x, 2, 0, 0, 2, 0, 0, 0, 0, 0, 0);
        check.node(x, 0, 0, 2, 0, 0, 0, 0, 3, 0, 0);
        x.cycle();
        check.node(x, 0, 0, 1, 0, 0, 0, 0, 3, 0, 0);
        x.cycle();
        check.node(x, 0, 0, 0, 0, 0, 0, 0, 3, 0, 0);
        x.take(2);
        check.node(x, 2, 0, 0, 1, 0, 0, 0, 0, 0, 0);
    }

    private static void packetsThatWait(Check check) {
        check.sentence("Promise 9", "packets that wait (what 0)");
        FlitTorus x = Nets.net(3, 0, 9);
        for (int i = 0; i <= 4; i++) {
            check.equal("node(8, 0)", x.node(8, 0), i);
            x.put(8, 0, 1, 0);
        }
        check.equal("a fifth was refused: node(8, 0)", x.node(8, 0), 4);
        for (int i = 3; i >= 0; i--) {
            x.cycle();
            check.equal("node(8, 0)", x.node(8, 0), i);
        }
    }

    private static void slotsNotFree(Check check) {
        check.sentence("Promise 9", "slots that are not free (1)");
        FlitTorus x = Nets.net(8, 0, 9);
        for (int i = 0; i < 10; i++) {
            check.equal("node(0, 1)", x.node(0, 1), Math.min(i, 8));
            x.put(0, 36, 1, 0);
            x.cycle();
        }
    }

    private static void packetsReady(Check check) {
        check.sentence("Promise 9", "packets READY (2)");
        FlitTorus x = Nets.net(3, 0, 9);
        for (int i = 0; i < 6; i++) {
            x.put(0, 1, 1, 0);
            x.cycle();
            check.equal("node(1, 2)", x.node(1, 2), Math.min(i, 4));
        }
    }

    private static void placesNotEmpty(Check check) {
        check.sentence("Promise 9", "places that aren't empty (3)");
        FlitTorus x = Nets.net(3, 0, 9);
        for (int i = 0; i < 10; i++) {
            x.put(0, 1, 1, 0);
            x.cycle();
            check.equal("node(1, 3)", x.node(1, 3), Math.max(0, Math.min(i - 4, 4)));
        }
        // A place that is kept isn't empty: of the eight, the ninth's is kept.
        for (int i = 0; i < 8; i++) {
            x.take(1);
        }
        check.equal("node(1, 3)", x.node(1, 3), 1);
    }

    private static void rowOfThoseAskedFor(Check check) {
        check.sentence("Promise 9", "packets in its row of those asked for (4)");
        FlitTorus x = Nets.net(3, 0, 9);
        Nets.fill(x, 2, 1);
        for (int i = 0; i <= 8; i++) {
            x.put(0, 1, 1, 0);
            x.cycle();
            check.equal("node(1, 4)", x.node(1, 4), i);
        }
        // Each take gives one of four places to the first of the row.
        for (int i = 7; i >= 4; i--) {
            x.take(1);
            check.equal("node(1, 4)", x.node(1, 4), i);
        }
        x.take(1);
        check.equal("no place is empty: node(1, 4)", x.node(1, 4), 4);
    }

    private static void flitsThere(Check check) {
        check.sentence("Promise 9", "flits there (5)");
        for (int flits = 0; flits <= 4; flits++) {
            FlitTorus x = Nets.cross(Nets.net(5, 0, 9), flits);
            check.equal("node(12, 5)", x.node(12, 5), flits);
            x.cycle();
            check.equal("all went on: node(12, 5)", x.node(12, 5), 0);
        }
    }

    private static void flitsThatWentOut(Check check) {
        check.sentence("Promise 9", "flits that went out of it so far (6)");
        FlitTorus x = Nets.cross(Nets.net(5, 0, 9), 4);
        check.equal("node(12, 6)", x.node(12, 6), 0);
        check.equal("node(11, 6)", x.node(11, 6), 1);
        x.cycle();
        check.equal("node(12, 6)", x.node(12, 6), 4);
        // What leaves at its goal goes over no way.
        x.cycle();
        check.equal("count(2)", x.count(2), 4);
        check.equal("node(11, 6)", x.node(11, 6), 1);
        check.equal("node(12, 6)", x.node(12, 6), 4);
        x.put(12, 13, 2, 0);
        x.cycle();
        check.equal("node(12, 6)", x.node(12, 6), 5);
        x.cycle();
        check.equal("node(12, 6)", x.node(12, 6), 6);
    }

    private static void latestHungryCycles(Check check) {
        check.sentence("Promise 9", "in how many of the latest cycles, one after the other, it was hungry (7)");
        FlitTorus x = Nets.crossing(1000);
        for (int cycle = 1; cycle <= 8; cycle++) {
            x.cycle();
            check.equal("node(6, 7)", x.node(6, 7), cycle);
        }
        x.cycle();
        check.equal("it was not in the latest one: node(6, 7)", x.node(6, 7), 0);
        check.equal("node(5, 7)", x.node(5, 7), 0);
    }

    /** Node 0 is sending a long packet when GO comes for three others: they stay in the row meanwhile. */
    private static void rowAgain(Check check) {
        check.sentence("Promise 9", "packets in its row AGAIN (8)");
        FlitTorus x = Nets.net(3, 0, 9);
        Nets.fill(x, 2, 1);
        Nets.send(x, 0, 1, 3, 11);
        x.cycle();
        for (int i = 0; i < 3; i++) {
            x.take(1);
        }
        x.put(0, 3, 4, 99);
        int[] due = {0, 3, 3, 3, 2, 1, 0, 0};
        for (int one : due) {
            x.cycle();
            check.equal("node(0, 8)", x.node(0, 8), one);
        }
    }

    private static void noSuchNode(Check check) {
        check.sentence("Promise 9", "NONE when there is no such node");
        FlitTorus x = Nets.net(3, 0, 1);
        for (int what = 0; what <= 8; what++) {
            check.equal("node(8, " + what + ")", x.node(8, what), 0);
            check.equal("node(9, " + what + ")", x.node(9, what), FlitTorus.NONE);
            for (int no : Nets.NEVER_NODES) {
                check.equal("node(" + no + ", " + what + ")", x.node(no, what), FlitTorus.NONE);
            }
        }
    }

    private static void noSuchWhat(Check check) {
        check.sentence("Promise 9", "no such node or what.");
        FlitTorus x = Nets.net(3, 0, 1);
        Nets.fill(x, 0, 1);
        int[] noWhats = {-1, 9, 10, Integer.MIN_VALUE, Integer.MAX_VALUE};
        for (int no : noWhats) {
            check.equal("node(0, " + no + ")", x.node(0, no), FlitTorus.NONE);
            check.equal("node(1, " + no + ")", x.node(1, no), FlitTorus.NONE);
        }
    }
}
