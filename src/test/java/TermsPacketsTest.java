/** Terms: packets, their flits, where they wait, and their slots. */
final class TermsPacketsTest {
    public static void main(String[] args) {
        Check check = new Check("TermsPacketsTest");
        check.run(TermsPacketsTest::goals, TermsPacketsTest::lengths, TermsPacketsTest::fourWait,
                TermsPacketsTest::eightSlots, TermsPacketsTest::lowestFreeSlot, TermsPacketsTest::slotIsKept,
                TermsPacketsTest::firstTry);
        check.end();
    }

    private static void goals(Check check) {
        check.sentence("Terms", "PACKETS have a source, a goal (another node)");
        FlitTorus x = Nets.net(8, 0, 9);
        int[] nodes = {0, 1, 62, 63};
        for (int node : nodes) {
            check.isFalse("its own goal: put(" + node + ", " + node + ", 1, 1)", x.put(node, node, 1, 1));
        }
        check.isTrue("the last one from the first: put(0, 63, 1, 1)", x.put(0, 63, 1, 1));
        check.isTrue("the first one from the last: put(63, 0, 1, 1)", x.put(63, 0, 1, 1));
    }

    private static void lengths(Check check) {
        check.sentence("Terms", "a length (1 .. 8 FLITS, numbered from 0) and a tag.");
        int[] tags = {0, -1, 1, Integer.MIN_VALUE, Integer.MAX_VALUE, 7, 8, 9};
        for (int length = 1; length <= 8; length++) {
            FlitTorus x = Nets.net(3, 0, 9);
            check.isTrue("length " + length, x.put(0, 1, length, tags[length - 1]));
            for (int number = 0; number < length; number++) {
                check.cycles(x, 1);
                check.equal("not all have come: node(1, 2)", x.node(1, 2), 0);
                check.equal("length " + length + ": flit(1, 0, 2)", x.flit(1, 0, 2), number);
            }
            check.cycles(x, 0);
            check.equal("all have come: count(2)", x.count(2), length);
            check.takes(x, 1, tags[length - 1]);
        }
        FlitTorus x = Nets.net(3, 0, 9);
        check.isFalse("length 0", x.put(0, 1, 0, 0));
        check.isFalse("length 9", x.put(0, 1, 9, 0));
    }

    private static void fourWait(Check check) {
        check.sentence("Terms", "At its source a packet WAITS first (at most 4 wait at a node, in their order)");
        FlitTorus x = Nets.net(5, 0, 9);
        int[] goals = {4, 20, 1, 5};
        int[] lines = {1, 3, 0, 2};
        for (int i = 0; i < 4; i++) {
            check.isTrue("put(0, " + goals[i] + ", 1, 0)", x.put(0, goals[i], 1, 0));
            check.node(x, 0, i + 1, 0);
        }
        check.isFalse("a fifth one", x.put(0, 1, 1, 0));
        check.node(x, 0, 4, 0);
        check.equal("none has entered: count(0)", x.count(0), 0);
        for (int i = 0; i < 4; i++) {
            x.cycle();
            check.node(x, 0, 3 - i);
            check.flit(x, goals[i], lines[i], 0);
        }
    }

    private static void eightSlots(Check check) {
        check.sentence("Terms", "it takes the lowest free one of the node's 8 SLOTS");
        FlitTorus x = Nets.net(8, 0, 1);
        for (int i = 0; i < 8; i++) {
            x.put(0, 36, 1, i);
            x.cycle();
            check.equal("flit(1, 0, 1)", x.flit(1, 0, 1), i);
            check.node(x, 0, 0, i + 1);
        }
        x.put(0, 36, 1, 8);
        // The first is received in cycle 8, eight ways off, and its note is told in cycle 16.
        for (int cycle = 8; cycle < 16; cycle++) {
            x.cycle();
            check.node(x, 0, 1, 8);
        }
        x.cycle();
        check.node(x, 0, 0, 8);
        check.flit(x, 1, 0, 0, 0, 0, 36, 16, 1);
    }

    private static void lowestFreeSlot(Check check) {
        check.sentence("Terms", "when its flit 0 enters, it takes the lowest free one");
        FlitTorus x = Nets.net(8, 0, 9);
        x.put(0, 36, 1, 0);
        x.cycle();
        // To the node beside: received in the second cycle behind, told in the third.
        x.put(0, 1, 1, 0);
        x.cycle();
        check.equal("flit(1, 0, 1)", x.flit(1, 0, 1), 1);
        x.put(0, 8, 1, 0);
        x.cycle();
        check.equal("flit(8, 2, 1)", x.flit(8, 2, 1), 2);
        x.put(0, 8, 1, 0);
        x.cycle();
        check.equal("slot 1 is free, 0 and 2 are not: flit(8, 2, 1)", x.flit(8, 2, 1), 1);
        x.put(0, 8, 1, 0);
        x.cycle();
        check.equal("slot 2 is free, 0 and 1 are not: flit(8, 2, 1)", x.flit(8, 2, 1), 2);
        check.node(x, 0, 0, 3);
    }

    private static void slotIsKept(Check check) {
        check.sentence("Terms", "which keeps it till it is told that all is DONE.");
        FlitTorus x = Nets.net(4, 0, 9);
        x.put(0, 2, 2, 0);
        // It enters in cycles 0 and 1 and is received, two ways off, in 2 and 3; so it is told in cycle 5.
        for (int cycle = 0; cycle < 5; cycle++) {
            x.cycle();
            check.node(x, 0, 0, 1);
            check.node(x, 2, 0, 0, cycle < 3 ? 0 : 1);
        }
        x.cycle();
        check.node(x, 0, 0, 0);
        // Slots 0 to 3 of node 0 have packets with all flits, for which there is no room among the READY ones.
        x = Nets.net(3, 0, 9);
        Nets.fill(x, 0, 1);
        for (int i = 0; i < 20; i++) {
            x.cycle();
            check.node(x, 0, 0, 4);
        }
    }

    private static void firstTry(Check check) {
        check.sentence("Terms", "Its TRY is 1 then.");
        FlitTorus x = Nets.net(3, 1, 9);
        x.put(0, 1, 2, 0);
        x.cycle();
        check.equal("flit 0: flit(1, 0, 5)", x.flit(1, 0, 5), 1);
        x.cycle();
        check.equal("flit 1: flit(1, 0, 5)", x.flit(1, 0, 5), 1);
        x.cycle();
        check.takes(x, 1, 0);
        check.taken(x, 1, 0, 2, 1);
    }
}
