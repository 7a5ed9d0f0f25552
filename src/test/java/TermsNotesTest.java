/** Terms: the cycle's step 1, in which notes are told. */
final class TermsNotesTest {
    public static void main(String[] args) {
        Check check = new Check("TermsNotesTest");
        check.run(TermsNotesTest::cyclesFromNought, TermsNotesTest::inTheOrderOfSending, TermsNotesTest::dueOnesOnly,
                TermsNotesTest::sentAtTheSameTime, TermsNotesTest::doneFreesASlot, TermsNotesTest::goGoesAgain);
        check.end();
    }

    private static void cyclesFromNought(Check check) {
        check.sentence("Terms", "A cycle (numbered from 0) goes so:");
        FlitTorus x = Nets.net(3, 0, 9);
        x.put(0, 1, 3, 0);
        for (int cycle = 0; cycle < 3; cycle++) {
            check.equal("count(3)", x.count(3), cycle);
            x.cycle();
            check.equal("flit(1, 0, 4)", x.flit(1, 0, 4), cycle);
        }
    }

    /**
     * Node 0 of 16 has sent one packet to each of two goals, and each was lost and is asked for. A
     * take at a goal sends GO for it.
     */
    private static FlitTorus twoAskedFor(int first, int fromFirst, int second, int fromSecond) {
        FlitTorus x = Nets.net(4, 0, 9);
        Nets.fill(x, fromFirst, first);
        Nets.fill(x, fromSecond, second);
        x.put(0, first, 1, 100);
        x.put(0, second, 1, 101);
        Nets.run(x, 3);
        return x;
    }

    private static void inTheOrderOfSending(Check check) {
        check.sentence("Terms", "1. NOTES that are due in it are told, in the order in which they were sent.");
        FlitTorus x = twoAskedFor(2, 6, 1, 5);
        // Node 2 is two ways off, so its note takes a cycle longer than the one of node 1: both are due at once.
        check.takes(x, 2, 1);
        x.cycle();
        check.takes(x, 1, 1);
        x.cycle();
        check.node(x, 0, 0, 2, 0, 0, 0, 0, 2, 0, 0);
        x.cycle();
        check.equal("one has gone, one is in the row: node(0, 8)", x.node(0, 8), 1);
        check.equal("the one of the note sent first: flit(1, 0, 3)", x.flit(1, 0, 3), 2);
        x.cycle();
        check.equal("then the other: flit(1, 0, 3)", x.flit(1, 0, 3), 1);
        check.equal("the row is empty: node(0, 8)", x.node(0, 8), 0);
    }

    private static void dueOnesOnly(Check check) {
        check.sentence("Terms", "NOTES that are due in it are told");
        FlitTorus x = twoAskedFor(2, 6, 1, 5);
        check.takes(x, 2, 1);
        check.takes(x, 1, 1);
        check.cycles(x, 0, 1);
        check.equal("the note sent later is due sooner: flit(1, 0, 3)", x.flit(1, 0, 3), 1);
        check.equal("the other is not told yet: node(0, 8)", x.node(0, 8), 0);
        check.cycles(x, 1);
        check.equal("flit(1, 0, 3)", x.flit(1, 0, 3), 2);
    }

    private static void sentAtTheSameTime(Check check) {
        check.sentence("Terms", "in the order in which they were sent.");
        FlitTorus x = twoAskedFor(1, 5, 3, 7);
        check.takes(x, 3, 1);
        check.takes(x, 1, 1);
        check.cycles(x, 0, 1);
        check.equal("that of 3 was sent first: flit(3, 1, 3)", x.flit(3, 1, 3), 3);
        check.cycles(x, 1);
        check.equal("then the other: flit(1, 0, 3)", x.flit(1, 0, 3), 1);
        x = twoAskedFor(1, 5, 3, 7);
        check.takes(x, 1, 1);
        check.takes(x, 3, 1);
        check.cycles(x, 0, 1);
        check.equal("that of 1 was sent first: flit(1, 0, 3)", x.flit(1, 0, 3), 1);
        check.cycles(x, 1);
        check.equal("then the other: flit(3, 1, 3)", x.flit(3, 1, 3), 3);
    }

    private static void doneFreesASlot(Check check) {
        check.sentence("Terms", "DONE: the slot is free.");
        FlitTorus x = Nets.net(3, 0, 9);
        Nets.fill(x, 2, 1);
        // Eight that are lost keep all slots of node 0; a ninth waits.
        Nets.send(x, 0, 1, 8, 11);
        x.put(0, 1, 1, 19);
        Nets.run(x, 2);
        check.node(x, 0, 1, 8);
        check.takes(x, 1, 1);
        // GO in cycle 20 for the first of the eight, which comes in cycle 21; no place of the READY ones is free.
        Nets.run(x, 4);
        check.node(x, 0, 1, 8, 0, 0, 0, 0, 9, 0, 0);
        check.takes(x, 1, 2);
        // It was in the lowest full place: DONE is told in the second cycle, with GO for the next of the eight.
        check.cycles(x, 0);
        check.node(x, 0, 1, 8);
        check.cycles(x, 1);
        check.node(x, 0, 1, 7);
        check.flit(x, 1, 0, 0, 1, 0, 1, 24, 2);
        check.cycles(x, 1);
        check.node(x, 0, 0, 8);
        check.flit(x, 1, 0, 0, 0, 0, 1, 25, 1);
    }

    private static void goGoesAgain(Check check) {
        check.sentence("Terms", "GO: the packet is to go AGAIN: it joins the node's row of such, its TRY is one more.");
        FlitTorus x = Nets.net(3, 0, 9);
        Nets.fill(x, 2, 1);
        Nets.send(x, 0, 1, 2, 11);
        x.put(0, 3, 5, 99);
        x.cycle();
        check.node(x, 1, 0, 0, 4, 4, 2);
        check.takes(x, 1, 1, 2);
        // The five flits to node 3 enter in cycles 11 to 15; GO for both is told in cycle 13.
        x.cycle();
        check.equal("node(0, 8)", x.node(0, 8), 0);
        for (int cycle = 13; cycle <= 15; cycle++) {
            x.cycle();
            check.equal("cycle " + cycle + ": node(0, 8)", x.node(0, 8), 2);
        }
        x.cycle();
        check.equal("node(0, 8)", x.node(0, 8), 1);
        check.equal("flit(1, 0, 5)", x.flit(1, 0, 5), 2);
        x.cycle();
        check.equal("node(0, 8)", x.node(0, 8), 0);
        check.equal("flit(1, 0, 5)", x.flit(1, 0, 5), 2);
    }
}
