/** Terms: who is hungry, who is starved, and the TURN (in the cycle's step 3). */
final class TermsHungryTest {
    private static final String FIRST = "only the first of these from the TURN on may let a flit enter"
            + " (by numbers, behind the last one those from 0 on)";
    private static final String TURN = "when it has done so, the TURN (0 at first) is the number behind it.";
    private static final String NOT_HUNGRY = "a node that let a flit enter, or could not for want of one,"
            + " was not hungry in that cycle.)";

    public static void main(String[] args) {
        Check check = new Check("TermsHungryTest");
        check.run(TermsHungryTest::tooManyFlits, TermsHungryTest::heldBack, TermsHungryTest::patience,
                TermsHungryTest::longPatience, TermsHungryTest::firstFromTheTurnOn,
                TermsHungryTest::behindTheLastThoseFromNought, TermsHungryTest::turnBehindTheLast,
                TermsHungryTest::turnStays, TermsHungryTest::lookedAtOnce, TermsHungryTest::lookedAtBehindStepTwo,
                TermsHungryTest::letOneEnter, TermsHungryTest::nonePutYet, TermsHungryTest::noSlotIsFree,
                TermsHungryTest::wantWhileStarved);
        check.end();
    }

    private static void tooManyFlits(Check check) {
        check.sentence("Terms", "A node is HUNGRY if one of these could enter but for too many flits there");
        FlitTorus x = Nets.crossing(1000);
        check.equal("node(6, 7)", x.node(6, 7), 0);
        for (int cycle = 1; cycle <= 8; cycle++) {
            x.cycle();
            check.equal("in cycle " + cycle + ": node(6, 7)", x.node(6, 7), cycle);
            check.equal("node(6, 0)", x.node(6, 0), 1);
        }
        x.cycle();
        check.equal("it entered: node(6, 7)", x.node(6, 7), 0);
        check.equal("node(6, 0)", x.node(6, 0), 0);
    }

    private static void heldBack(Check check) {
        check.sentence("Terms", "or but for this: when nodes are STARVED");
        FlitTorus x = Nets.crossing(1);
        x.cycle();
        x.put(24, 0, 1, 0);
        x.cycle();
        // Node 24 has nothing but the one that it may not let enter.
        check.node(x, 24, 1, 0, 0, 0, 0, 0, 0, 1, 0);
        check.equal("node(5, 7)", x.node(5, 7), 1);
        check.equal("node(7, 7)", x.node(7, 7), 1);
    }

    private static void patience(Check check) {
        check.sentence("Terms", "STARVED (hungry in the PATIENCE latest cycles, each)");
        for (int patience = 1; patience <= 6; patience++) {
            FlitTorus x = Nets.crossing(patience);
            Nets.run(x, patience);
            check.equal("node(6, 7)", x.node(6, 7), patience);
            check.equal("patience " + patience + ", none was held back: node(5, 7)", x.node(5, 7), 0);
            check.equal("patience " + patience + ", none was held back: node(7, 7)", x.node(7, 7), 0);
            x.cycle();
            check.equal("patience " + patience + ", it is starved: node(5, 7)", x.node(5, 7), 1);
            check.equal("patience " + patience + ", it is starved: node(7, 7)", x.node(7, 7), 1);
        }
        // Hungry 8 times, with a patience of 9: it is never starved.
        FlitTorus x = Nets.crossing(9);
        Nets.run(x, 12);
        check.equal("count(5)", x.count(5), 0);
    }

    /** Nodes 5 and 7 send without a gap, so that node 6 between them is hungry for a hundred cycles. */
    private static void longPatience(Check check) {
        check.sentence("Terms", "STARVED (hungry in the PATIENCE latest cycles, each)");
        FlitTorus x = Nets.crossing(100);
        for (int cycle = 1; cycle <= 100; cycle++) {
            if (cycle % 8 == 1) {
                x.put(5, 7, 8, 57);
                x.put(7, 5, 8, 75);
            }
            if (cycle % 8 == 3 && cycle > 10) {
                x.take(5);
                x.take(7);
            }
            x.cycle();
            check.equal("node(6, 7)", x.node(6, 7), cycle);
        }
        check.equal("none was held back: node(5, 7)", x.node(5, 7), 0);
        check.equal("none was held back: node(7, 7)", x.node(7, 7), 0);
        x.cycle();
        check.equal("it is starved: node(5, 7)", x.node(5, 7), 1);
        check.equal("it is starved: node(7, 7)", x.node(7, 7), 1);
        check.equal("count(5)", x.count(5), 0);
        x.cycle();
        check.equal("it let one enter: node(6, 7)", x.node(6, 7), 0);
        check.equal("count(5)", x.count(5), 7);
    }

    /** With a patience of 2: the cycle, how often 5, 6 and 7 were hungry, and the TURN behind each cycle. */
    private static void rows(Check check, FlitTorus x, int[][] due) {
        for (int[] row : due) {
            x.cycle();
            check.equal("in cycle " + row[0] + ": node(5, 7)", x.node(5, 7), row[1]);
            check.equal("in cycle " + row[0] + ": node(6, 7)", x.node(6, 7), row[2]);
            check.equal("in cycle " + row[0] + ": node(7, 7)", x.node(7, 7), row[3]);
            check.equal("in cycle " + row[0] + ": count(5)", x.count(5), row[4]);
        }
    }

    private static void firstFromTheTurnOn(Check check) {
        check.sentence("Terms", FIRST);
        rows(check, Nets.crossing(2), new int[][] {
            {1, 0, 1, 0, 0}, {2, 0, 2, 0, 0},
            // Node 6 alone may let one enter, but it is full; then it does.
            {3, 1, 3, 1, 0}, {4, 2, 0, 2, 7},
            // Nodes 5 and 7 are starved: node 7 is the first from the TURN on.
            {5, 3, 0, 0, 8}});
    }

    private static void behindTheLastThoseFromNought(Check check) {
        check.sentence("Terms", FIRST);
        FlitTorus x = Nets.crossing(2);
        Nets.run(x, 5);
        // The TURN is 8 and node 5 alone is starved.
        rows(check, x, new int[][] {{6, 0, 0, 1, 6}});
    }

    /** Node 24 of 25 has two open ways, and is starved between nodes 23 and 20. */
    private static void turnBehindTheLast(Check check) {
        check.sentence("Terms", TURN);
        FlitTorus x = Nets.net(5, 0, 2);
        check.equal("at first: count(5)", x.count(5), 0);
        x.link(24, 2, false);
        x.link(24, 3, false);
        x.put(23, 20, 8, 1);
        x.put(20, 23, 8, 2);
        x.cycle();
        x.put(24, 20, 1, 3);
        Nets.run(x, 3);
        check.equal("node(24, 7)", x.node(24, 7), 3);
        check.equal("count(5)", x.count(5), 0);
        x.cycle();
        check.equal("it let one enter: node(24, 7)", x.node(24, 7), 0);
        check.equal("count(5)", x.count(5), 0);
        check.equal("node(20, 7)", x.node(20, 7), 2);
        check.equal("node(23, 7)", x.node(23, 7), 2);
        // From 0 on the first one starved is 20.
        x.cycle();
        check.equal("node(20, 7)", x.node(20, 7), 0);
        check.equal("node(23, 7)", x.node(23, 7), 3);
        check.equal("count(5)", x.count(5), 21);
    }

    private static void turnStays(Check check) {
        check.sentence("Terms", "when it has done so, the TURN");
        FlitTorus x = Nets.crossing(1);
        // In cycle 1 nodes 5 and 7 let flits enter, but none is starved; in cycle 2 node 6 is, but it is full.
        x.cycle();
        check.equal("count(5)", x.count(5), 0);
        x.cycle();
        check.equal("node(6, 7)", x.node(6, 7), 2);
        check.equal("count(5)", x.count(5), 0);
        // Nodes 5, 6 and 7 are starved now; 5 and then 6 let one enter.
        x.cycle();
        check.equal("node(5, 7)", x.node(5, 7), 0);
        check.equal("count(5)", x.count(5), 6);
        x.cycle();
        check.equal("node(6, 7)", x.node(6, 7), 0);
        check.equal("count(5)", x.count(5), 7);
    }

    private static void lookedAtOnce(Check check) {
        check.sentence("Terms", "(Who is starved is looked at behind step 2;");
        FlitTorus x = Nets.crossing(2);
        Nets.run(x, 5);
        // Node 5 lets one enter in cycle 6 and is starved no more, but node 7 may not in that cycle.
        x.cycle();
        check.equal("node(5, 7)", x.node(5, 7), 0);
        check.equal("node(7, 7)", x.node(7, 7), 1);
        x.cycle();
        check.equal("node(7, 7)", x.node(7, 7), 0);
    }

    /** Node 6 comes to be hungry for the first time in a cycle in which node 7, behind it, lets a flit enter. */
    private static void lookedAtBehindStepTwo(Check check) {
        check.sentence("Terms", "Who is starved is looked at behind step 2");
        FlitTorus x = Nets.crossing(1);
        x.cycle();
        check.equal("node(6, 7)", x.node(6, 7), 1);
        check.equal("node(7, 7)", x.node(7, 7), 0);
        check.flit(x, 6, 1, 7, 0, 1);
    }

    private static void letOneEnter(Check check) {
        check.sentence("Terms", NOT_HUNGRY);
        FlitTorus x = Nets.net(3, 0, 1);
        x.put(0, 4, 8, 0);
        x.put(0, 4, 8, 0);
        for (int i = 0; i < 16; i++) {
            x.cycle();
            check.equal("node(0, 7)", x.node(0, 7), 0);
        }
    }

    private static void nonePutYet(Check check) {
        check.sentence("Terms", NOT_HUNGRY);
        // Node 12 is full, but has none to let enter.
        FlitTorus x = Nets.cross(Nets.net(5, 0, 1), 4);
        x.cycle();
        check.equal("node(12, 7)", x.node(12, 7), 0);
        check.equal("node(0, 7)", x.node(0, 7), 0);
    }

    private static void noSlotIsFree(Check check) {
        check.sentence("Terms", NOT_HUNGRY);
        FlitTorus x = Nets.net(8, 0, 1);
        Nets.send(x, 0, 36, 8, 0);
        x.put(0, 36, 1, 8);
        for (int i = 0; i < 8; i++) {
            x.cycle();
            check.node(x, 0, 1, 8, 0, 0, 0, 0, 8, 0);
        }
    }

    /**
     * Node 10 of 64 has two open ways and eight flits for node 13, three ways off. It is hungry in
     * cycle 15, for two flits that cross there. In cycle 16 GO is told, and as a flit of the first
     * try is in the net, it has none to let enter: it is starved, but not hungry.
     */
    private static void wantWhileStarved(Check check) {
        check.sentence("Terms", NOT_HUNGRY);
        FlitTorus x = Nets.net(8, 0, 1);
        x.link(10, 2, false);
        x.link(10, 3, false);
        Nets.fill(x, 14, 13);
        x.put(10, 13, 8, 100);
        Nets.run(x, 4);
        check.takes(x, 13, 1);
        x.cycle();
        x.put(9, 11, 1, 0);
        x.put(11, 9, 1, 0);
        x.cycle();
        check.equal("node(10, 5)", x.node(10, 5), 2);
        x.cycle();
        check.equal("count(3)", x.count(3), 16);
        check.equal("node(10, 7)", x.node(10, 7), 1);
        x.put(40, 41, 1, 0);
        x.cycle();
        check.equal("node(10, 7)", x.node(10, 7), 0);
        check.equal("node(10, 8)", x.node(10, 8), 1);
        check.equal("node 10 alone might have: node(40, 7)", x.node(40, 7), 1);
        check.equal("count(5)", x.count(5), 0);
        // Now node 40 is starved, and node 10, whose flits have all left, is held back.
        x.cycle();
        check.equal("node(40, 7)", x.node(40, 7), 0);
        check.equal("node(10, 7)", x.node(10, 7), 1);
        check.equal("count(5)", x.count(5), 41);
        x.cycle();
        check.equal("node(10, 8)", x.node(10, 8), 0);
        check.flit(x, 11, 0, 10, 0, 0, 13, 18, 2);
        check.equal("count(5)", x.count(5), 11);
    }
}
