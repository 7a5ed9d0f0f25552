/** Promise 5: cycle, with the terms it stands on. Every due answer was worked out from the document by hand. */
final class CycleTest {
    private static final int NONE = FlitTorus.NONE;

    public static void main(String[] args) {
        Check check = new Check("CycleTest");
        onePacket(check);
        waysInOrder(check);
        olderFirst(check);
        lesserSourceFirst(check);
        twoLeave(check);
        goldenFirst(check);
        cellsOfOne(check);
        cellsOfTwo(check);
        thirdCell(check);
        hungry(check);
        starved(check);
        slotsFull(check);
        lostAndAskedFor(check);
        firstTryIsLeft(check);
        check.end();
    }

    private static FlitTorus net(int n, int mode, int patience) {
        FlitTorus x = new FlitTorus();
        x.reset(n, mode, patience);
        return x;
    }

    private static void onePacket(Check check) {
        FlitTorus x = net(4, 0, 9);
        x.put(0, 2, 3, 1);
        // One flit enters a cycle; each goes two ways and leaves in the cycle behind.
        check.cycles(x, 1, 2, 2, 1, 0, 0);
        check.equal("the note is due two cycles behind: node(0, 1)", x.node(0, 1), 1);
        check.cycles(x, 0);
        check.equal("node(0, 1)", x.node(0, 1), 0);
        check.equal("count(2)", x.count(2), 3);
        check.equal("count(1)", x.count(1), 0);
    }

    /** The lowest wanted way; and each of the ways over the edge of the net. */
    private static void waysInOrder(Check check) {
        int[] goals = {6, 8, 12, 2, 13, 1, 11, 3};
        int[] ways = {1, 0, 2, 3, 0, 1, 1, 0};
        int[] nexts = {6, 8, 12, 2, 8, 6, 6, 8};
        for (int mode = 0; mode <= 1; mode++) {
            for (int i = 0; i < goals.length; i++) {
                FlitTorus x = net(5, mode, 9);
                x.put(7, goals[i], 1, 0);
                x.cycle();
                check.flit(x, nexts[i], ways[i], 7, 0, 0, goals[i], 0, 1);
            }
            int[] corners = {4, 0, 20, 0};
            int[] over = {0, 4, 0, 20};
            for (int way = 0; way < 4; way++) {
                FlitTorus x = net(5, mode, 9);
                x.put(corners[way], over[way], 1, 0);
                x.cycle();
                check.equal("over the edge", x.flit(over[way], way, 0), corners[way]);
            }
        }
    }

    private static void olderFirst(Check check) {
        FlitTorus x = net(5, 0, 9);
        x.put(5, 7, 1, 0);
        x.cycle();
        x.put(6, 7, 1, 0);
        // Both want way 0 of node 6 alone; the one that entered now goes by the lowest that is left.
        check.cycles(x, 2);
        check.equal("flit(7, 0, 0)", x.flit(7, 0, 0), 5);
        check.equal("flit(5, 1, 0)", x.flit(5, 1, 0), 6);
        check.equal("flit(5, 1, 4)", x.flit(5, 1, 4), 1);
        check.equal("count(1)", x.count(1), 1);
        check.cycles(x, 1, 1, 0);
        check.equal("count(1)", x.count(1), 1);
        check.equal("node(7, 2)", x.node(7, 2), 2);
    }

    private static void lesserSourceFirst(Check check) {
        FlitTorus x = net(7, 0, 9);
        // They meet at node 1 and want its way 2 alone; neither is golden.
        x.put(2, 15, 1, 0);
        x.put(43, 15, 1, 0);
        x.cycle();
        check.equal("flit(1, 1, 0)", x.flit(1, 1, 0), 2);
        check.equal("flit(1, 2, 0)", x.flit(1, 2, 0), 43);
        x.cycle();
        check.equal("flit(8, 2, 0)", x.flit(8, 2, 0), 2);
        check.equal("flit(2, 0, 0)", x.flit(2, 0, 0), 43);
        check.equal("count(1)", x.count(1), 1);
    }

    private static void twoLeave(Check check) {
        FlitTorus x = net(3, 0, 9);
        x.put(5, 4, 1, 55);
        x.put(3, 4, 1, 33);
        x.put(1, 4, 1, 11);
        check.cycles(x, 3);
        check.equal("node(4, 5)", x.node(4, 5), 3);
        // The third goes on by the lowest open way, and comes back.
        check.cycles(x, 1);
        check.equal("flit(5, 0, 0)", x.flit(5, 0, 0), 5);
        check.equal("count(1)", x.count(1), 1);
        check.equal("count(2)", x.count(2), 2);
        check.cycles(x, 1, 0);
        check.takes(x, 4, 11);
        check.takes(x, 4, 33);
        check.takes(x, 4, 55);
    }

    private static void goldenFirst(Check check) {
        // In cycles 0 .. 31 flit 0 of slot 0 of node 0 is golden, so it goes before the older one.
        FlitTorus x = net(8, 0, 9);
        x.put(49, 17, 1, 0);
        x.cycle();
        x.put(0, 17, 1, 0);
        x.cycle();
        check.equal("flit(1, 0, 0)", x.flit(1, 0, 0), 0);
        check.equal("flit(1, 2, 0)", x.flit(1, 2, 0), 49);
        x.cycle();
        check.equal("flit(9, 2, 0)", x.flit(9, 2, 0), 0);
        check.equal("flit(2, 0, 0)", x.flit(2, 0, 0), 49);
        // From cycle 32 on it is not.
        x = net(8, 0, 9);
        for (int i = 0; i < 32; i++) {
            x.cycle();
        }
        x.put(49, 17, 1, 0);
        x.cycle();
        x.put(0, 17, 1, 0);
        x.cycle();
        x.cycle();
        check.equal("flit(9, 2, 0)", x.flit(9, 2, 0), 49);
        check.equal("flit(2, 0, 0)", x.flit(2, 0, 0), 0);
    }

    /** Mode 1, a flit at its goal that may not leave: it wants no way, goes down, and gets way 2. */
    private static void cellsOfOne(Check check) {
        FlitTorus x = net(3, 1, 9);
        x.put(5, 4, 1, 0);
        x.put(3, 4, 1, 0);
        x.put(1, 4, 1, 0);
        check.cycles(x, 3, 1);
        check.equal("flit(7, 2, 0)", x.flit(7, 2, 0), 5);
        check.equal("count(1)", x.count(1), 1);
    }

    /** Mode 1, one cell: the older goes up to way 0, the other one down, where it wants neither way. */
    private static void cellsOfTwo(Check check) {
        FlitTorus x = net(5, 1, 9);
        x.put(5, 7, 1, 0);
        x.cycle();
        x.put(6, 7, 1, 0);
        check.cycles(x, 2);
        check.equal("flit(7, 0, 0)", x.flit(7, 0, 0), 5);
        check.equal("flit(11, 2, 0)", x.flit(11, 2, 0), 6);
        check.equal("count(1)", x.count(1), 1);
        // The higher one wants way 3 alone and goes down; the other one goes up and gets way 0, as it is wanted.
        x = net(5, 1, 9);
        x.put(5, 1, 1, 0);
        x.cycle();
        x.put(6, 7, 1, 0);
        x.cycle();
        check.equal("flit(1, 3, 0)", x.flit(1, 3, 0), 5);
        check.equal("flit(7, 0, 0)", x.flit(7, 0, 0), 6);
        check.equal("count(1)", x.count(1), 0);
        // Alike, but the other one wants way 2 and must go up: it gets way 0, as way 1 isn't wanted either.
        x = net(5, 1, 9);
        x.put(5, 1, 1, 0);
        x.cycle();
        x.put(6, 11, 1, 0);
        x.cycle();
        check.equal("flit(1, 3, 0)", x.flit(1, 3, 0), 5);
        check.equal("flit(7, 0, 0)", x.flit(7, 0, 0), 6);
        check.equal("count(1)", x.count(1), 1);
    }

    /** Mode 1: one from each of the first two cells goes up, and both want way 0. */
    private static void thirdCell(Check check) {
        FlitTorus x = net(5, 1, 9);
        x.put(5, 7, 1, 0);
        x.put(7, 5, 1, 0);
        x.cycle();
        check.equal("flit(6, 0, 0)", x.flit(6, 0, 0), 5);
        check.equal("flit(6, 1, 0)", x.flit(6, 1, 0), 7);
        x.put(6, 7, 1, 0);
        // Lines 0 and 1 are taken, so it enters on line 2, comes to the second cell and goes up.
        check.cycles(x, 3);
        check.equal("flit(7, 0, 0)", x.flit(7, 0, 0), 5);
        check.equal("flit(5, 1, 0)", x.flit(5, 1, 0), 6);
        check.equal("flit(11, 2, 0)", x.flit(11, 2, 0), 7);
        check.equal("count(1)", x.count(1), 2);
    }

    /** Node 6 of 25 with two open ways, and a flit on each of them in every cycle from 1 to 8. */
    private static FlitTorus crossing(int patience) {
        FlitTorus x = net(5, 0, patience);
        x.link(6, 2, false);
        x.link(6, 3, false);
        x.put(5, 7, 8, 57);
        x.put(7, 5, 8, 75);
        x.cycle();
        x.put(6, 7, 1, 67);
        return x;
    }

    private static void hungry(Check check) {
        FlitTorus x = crossing(1000);
        check.equal("node(6, 5)", x.node(6, 5), 2);
        for (int i = 1; i <= 8; i++) {
            x.cycle();
            check.equal("in cycle " + i + ": node(6, 7)", x.node(6, 7), i);
            check.equal("it waits: node(6, 0)", x.node(6, 0), 1);
        }
        x.cycle();
        check.equal("it entered: node(6, 7)", x.node(6, 7), 0);
        check.equal("node(6, 0)", x.node(6, 0), 0);
        check.equal("none starved: count(5)", x.count(5), 0);
    }

    private static void starved(Check check) {
        FlitTorus x = crossing(2);
        int[][] due = {
            // cycle, hungry 5, hungry 6, hungry 7, turn
            {1, 0, 1, 0, 0}, {2, 0, 2, 0, 0},
            // Node 6 alone may let one enter now, but it is full.
            {3, 1, 3, 1, 0},
            {4, 2, 0, 2, 7},
            // Nodes 5 and 7 are starved: 7 is the first from the turn on, then 5 behind the last one.
            {5, 3, 0, 0, 8}, {6, 0, 0, 1, 6},
            // None is starved.
            {7, 0, 0, 0, 6}};
        for (int[] row : due) {
            x.cycle();
            check.equal("in cycle " + row[0] + ": node(5, 7)", x.node(5, 7), row[1]);
            check.equal("in cycle " + row[0] + ": node(6, 7)", x.node(6, 7), row[2]);
            check.equal("in cycle " + row[0] + ": node(7, 7)", x.node(7, 7), row[3]);
            check.equal("in cycle " + row[0] + ": count(5)", x.count(5), row[4]);
        }
    }

    /** Eight packets of one flit that go far: the ninth has no slot, and its node is not hungry for that. */
    private static void slotsFull(Check check) {
        FlitTorus x = net(8, 0, 1);
        for (int i = 0; i < 9; i++) {
            check.isTrue("put(0, 36, 1, " + i + ")", x.put(0, 36, 1, i));
            check.equal("cycle()", x.cycle(), i < 8 ? i + 1 : 7);
            check.equal("node(0, 1)", x.node(0, 1), Math.min(i + 1, 8));
        }
        check.equal("node(0, 0)", x.node(0, 0), 1);
        check.equal("node(0, 7)", x.node(0, 7), 0);
        // The first is received in cycle 8, its note told in cycle 16: then the slot is free, the ninth enters.
        for (int i = 9; i < 16; i++) {
            x.cycle();
            check.equal("cycle " + i + ": node(0, 0)", x.node(0, 0), 1);
        }
        x.cycle();
        check.equal("node(0, 0)", x.node(0, 0), 0);
        check.equal("flit(1, 0, 1)", x.flit(1, 0, 1), 0);
        check.equal("flit(1, 0, 4)", x.flit(1, 0, 4), 16);
    }

    private static void lostAndAskedFor(Check check) {
        FlitTorus x = net(3, 0, 9);
        for (int tag = 1; tag <= 9; tag++) {
            x.put(0, 1, 1, tag);
            x.cycle();
        }
        x.cycle();
        check.equal("four are ready: node(1, 2)", x.node(1, 2), 4);
        check.equal("four are full: node(1, 3)", x.node(1, 3), 4);
        check.equal("one is asked for: node(1, 4)", x.node(1, 4), 1);
        check.equal("count(4)", x.count(4), 1);
        check.equal("count(2)", x.count(2), 9);
        check.equal("five keep their slots: node(0, 1)", x.node(0, 1), 5);
        check.takes(x, 1, 1);
        check.equal("the lowest full one is ready: node(1, 2)", x.node(1, 2), 4);
        check.equal("its place is kept: node(1, 3)", x.node(1, 3), 4);
        check.equal("none is asked for: node(1, 4)", x.node(1, 4), 0);
        check.cycles(x, 0);
        check.equal("both notes are due in the next: node(0, 1)", x.node(0, 1), 5);
        check.cycles(x, 1);
        check.equal("one slot is free: node(0, 1)", x.node(0, 1), 4);
        check.equal("it went at once: node(0, 8)", x.node(0, 8), 0);
        check.equal("flit(1, 0, 5)", x.flit(1, 0, 5), 2);
        check.equal("flit(1, 0, 4)", x.flit(1, 0, 4), 11);
        check.cycles(x, 0);
        check.equal("count(2)", x.count(2), 10);
        check.equal("count(4)", x.count(4), 1);
        check.equal("it is full, but four are ready: node(1, 3)", x.node(1, 3), 4);
        check.takes(x, 1, 2);
        // The ninth was in the lowest full place, and so is ready before 6, 7 and 8.
        int[] tags = {3, 4, 5, 9, 6, 7, 8};
        for (int tag : tags) {
            check.takes(x, 1, tag);
            check.equal("taken(1, 2)", x.taken(1, 2), tag == 9 ? 2 : 1);
        }
        check.equal("node(1, 3)", x.node(1, 3), 0);
        check.takeThrows(x, 1, IllegalStateException.class);
        check.cycles(x, 0, 0);
        check.equal("all are done: node(0, 1)", x.node(0, 1), 0);
    }

    /** GO comes while flits of the first try have still to enter: they stay out, and all begins anew. */
    private static void firstTryIsLeft(Check check) {
        FlitTorus x = net(3, 0, 9);
        for (int tag = 1; tag <= 8; tag++) {
            x.put(0, 1, 1, tag);
            x.cycle();
        }
        x.cycle();
        x.cycle();
        check.equal("node(1, 3)", x.node(1, 3), 4);
        // Packets 5 to 8 keep slots 0 to 3, so it takes slot 4.
        x.put(0, 1, 8, 9);
        check.cycles(x, 1, 1);
        check.equal("flit 0 is lost: count(4)", x.count(4), 1);
        check.takes(x, 1, 1);
        x.put(0, 1, 1, 10);
        // Flit 1 is lost and flit 2 enters; in the next cycle GO is told, flit 2 is lost, and flit 0 enters again.
        check.cycles(x, 1);
        check.flit(x, 1, 0, 0, 4, 2, 1, 12, 1);
        check.cycles(x, 1);
        check.flit(x, 1, 0, 0, 4, 0, 1, 13, 2);
        check.equal("three flits of the first try were lost: count(2)", x.count(2), 11);
        check.cycles(x, 1, 1, 1, 1, 1, 1, 1);
        check.flit(x, 1, 0, 0, 4, 7, 1, 20, 2);
        check.equal("the other one waits all the while: node(0, 0)", x.node(0, 0), 1);
        check.cycles(x, 1);
        check.equal("node(0, 0)", x.node(0, 0), 0);
        check.flit(x, 1, 1, NONE);
        check.equal("count(2)", x.count(2), 19);
        int[] tags = {2, 3, 4, 5, 9};
        for (int tag : tags) {
            check.takes(x, 1, tag);
        }
        check.equal("taken(1, 1)", x.taken(1, 1), 8);
        check.equal("taken(1, 2)", x.taken(1, 2), 2);
    }
}
