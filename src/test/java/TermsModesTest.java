/** Terms: the two modes, lines and cells, and which flits are deflected. */
final class TermsModesTest {
    public static void main(String[] args) {
        Check check = new Check("TermsModesTest");
        check.run(TermsModesTest::lowestWantedWay, TermsModesTest::lowestWantedWayThatIsLeft,
                TermsModesTest::lowestOpenWayThatIsLeft, TermsModesTest::modeOneWithAllLinksOpen,
                TermsModesTest::linesOfThoseThatCame, TermsModesTest::linesOfThoseThatEnter,
                TermsModesTest::lastFreeLine, TermsModesTest::pairsOfLines, TermsModesTest::higherGoesUpOrDown,
                TermsModesTest::wayByTheLastCells, TermsModesTest::fromTheSecondCell, TermsModesTest::oneIsMissing,
                TermsModesTest::cellsAreFull, TermsModesTest::deflected);
        check.end();
    }

    private static void lowestWantedWay(Check check) {
        check.sentence("Terms", "MODE 0: by rank, each gets the lowest wanted way that is left;");
        // Over every way alone, then with two and with all four wanted.
        int[] goals = {8, 6, 12, 2, 13, 1, 11, 3};
        int[] ways = {0, 1, 2, 3, 0, 1, 1, 0};
        int[] nexts = {8, 6, 12, 2, 8, 6, 6, 8};
        for (int i = 0; i < goals.length; i++) {
            FlitTorus x = Nets.net(5, 0, 9);
            x.put(7, goals[i], 1, 0);
            x.cycle();
            check.flit(x, nexts[i], ways[i], 7);
        }
        // In the smallest net all four lead nearer to the node across.
        FlitTorus x = Nets.net(2, 0, 9);
        x.put(1, 2, 1, 0);
        x.cycle();
        check.flit(x, 0, 0, 1);
    }

    private static void lowestWantedWayThatIsLeft(Check check) {
        check.sentence("Terms", "by rank, each gets the lowest wanted way that is left");
        FlitTorus x = Nets.net(4, 0, 9);
        x.put(6, 13, 1, 0);
        x.cycle();
        // From node 5 ways 2 and 3 lead nearer to node 13, which is half way round.
        check.flit(x, 5, 1, 6);
        x.put(5, 13, 1, 0);
        x.cycle();
        check.flit(x, 9, 2, 6);
        check.flit(x, 1, 3, 5);
        check.equal("count(1)", x.count(1), 0);
        // By rank, not by line: the older one, on line 3, gets way 3 before the one that entered on line 0.
        x = Nets.net(5, 0, 9);
        x.put(11, 1, 1, 0);
        x.cycle();
        check.flit(x, 6, 3, 11);
        x.put(6, 1, 1, 0);
        x.cycle();
        check.flit(x, 1, 3, 11);
        check.flit(x, 7, 0, 6);
    }

    private static void lowestOpenWayThatIsLeft(Check check) {
        check.sentence("Terms", "without such the lowest open one that is left.");
        for (int closed = 0; closed <= 1; closed++) {
            FlitTorus x = Nets.net(5, 0, 9);
            if (closed == 1) {
                x.link(12, 0, false);
            }
            x.put(7, 17, 1, 0);
            x.cycle();
            x.put(12, 17, 1, 0);
            // Both want way 2 alone.
            x.cycle();
            check.flit(x, 17, 2, 7);
            check.flit(x, closed == 0 ? 13 : 11, closed, 12);
            check.equal("count(1)", x.count(1), 1);
        }
        // Ways 0, 1 and 2 are taken, so the last one is left.
        FlitTorus x = Nets.net(5, 0, 9);
        Nets.cross(x, 3);
        x.put(12, 13, 1, 0);
        x.cycle();
        check.flit(x, 7, 3, 12);
        check.equal("count(1)", x.count(1), 1);
    }

    private static void modeOneWithAllLinksOpen(Check check) {
        check.sentence("Terms", "MODE 1 (only while all links are open)");
        FlitTorus x = Nets.net(4, 0, 9);
        check.isTrue("mode 0: link(5, 0, false)", x.link(5, 0, false));
        check.isTrue("reset(4, 1, 9)", x.reset(4, 1, 9));
        check.equal("all are open again: distance(5, 6)", x.distance(5, 6), 1);
        for (int way = 0; way < 4; way++) {
            check.isFalse("mode 1: link(5, " + way + ", false)", x.link(5, way, false));
        }
        check.equal("distance(5, 6)", x.distance(5, 6), 1);
    }

    private static void linesOfThoseThatCame(Check check) {
        check.sentence("Terms", "a flit that came over way w of the node before");
        FlitTorus x = Nets.cross(Nets.net(5, 1, 9), 4);
        int[] from = {11, 13, 7, 17};
        for (int line = 0; line < 4; line++) {
            check.flit(x, 12, line, from[line]);
        }
    }

    private static void linesOfThoseThatEnter(Check check) {
        check.sentence("Terms", "or entered (then with the lowest number that no other flit there has, of 0 .. 3),"
                + " is on LINE w.");
        // Line 0 is taken: it enters on line 1, in the same cell, and as the lower one goes down.
        FlitTorus x = Nets.net(5, 1, 9);
        x.put(5, 7, 1, 0);
        x.cycle();
        x.put(6, 7, 1, 0);
        x.cycle();
        check.flit(x, 7, 0, 5);
        check.flit(x, 11, 2, 6);
        // Line 1 is taken: it enters on line 0, in the same cell. From line 2 it would have gone up, to way 0.
        x = Nets.net(5, 1, 9);
        x.put(7, 5, 1, 0);
        x.cycle();
        x.put(6, 7, 1, 0);
        x.cycle();
        check.flit(x, 5, 1, 7);
        check.flit(x, 11, 2, 6);
        // Line 2 is taken: it enters on line 0, alone in its cell, and goes down. From line 3 it would have gone up.
        x = Nets.net(5, 1, 9);
        x.put(1, 11, 1, 0);
        x.cycle();
        check.flit(x, 6, 2, 1);
        x.put(6, 11, 1, 0);
        x.cycle();
        check.flit(x, 11, 2, 1);
        check.flit(x, 1, 3, 6);
        // Lines 0 and 1 are taken: it enters on line 2, alone in its cell, and goes up.
        x = Nets.net(5, 1, 9);
        x.put(5, 7, 1, 0);
        x.put(7, 5, 1, 0);
        x.cycle();
        x.put(6, 7, 1, 0);
        x.cycle();
        check.flit(x, 7, 0, 5);
        check.flit(x, 5, 1, 6);
        check.flit(x, 11, 2, 7);
    }

    private static void lastFreeLine(Check check) {
        check.sentence("Terms", "the lowest number that no other flit there has, of 0 .. 3");
        // Lines 0, 1 and 2 are taken: on line 3 it is with the one of 7, which goes down, and so goes up.
        FlitTorus x = Nets.cross(Nets.net(5, 1, 9), 3);
        x.put(12, 17, 1, 0);
        check.cycles(x, 4);
        check.flit(x, 13, 0, 11);
        check.flit(x, 11, 1, 12);
        check.flit(x, 17, 2, 7);
        check.flit(x, 7, 3, 13);
        // The one on line 0 has node 12 as its goal and leaves in step 2: line 0 is free then.
        x = Nets.net(5, 1, 9);
        x.put(11, 12, 1, 0);
        x.put(13, 11, 1, 0);
        x.put(7, 17, 1, 0);
        x.put(17, 7, 1, 0);
        x.cycle();
        check.equal("node(12, 5)", x.node(12, 5), 4);
        x.put(12, 17, 1, 0);
        check.cycles(x, 4);
        // First cell: 13 up, 12 down. Second cell: 7 down, 17 up. 13 is before 17, 7 before 12.
        check.flit(x, 11, 1, 13);
        check.flit(x, 13, 0, 17);
        check.flit(x, 17, 2, 7);
        check.flit(x, 7, 3, 12);
    }

    private static void pairsOfLines(Check check) {
        check.sentence("Terms", "Lines 0 and 1 come to a first cell, 2 and 3 to a second one;");
        // Lines 1 and 2: each is alone in its cell, and both get what they want.
        FlitTorus x = Nets.net(5, 1, 9);
        x.put(13, 11, 1, 0);
        x.put(7, 17, 1, 0);
        check.cycles(x, 2, 2);
        check.flit(x, 11, 1, 13);
        check.flit(x, 17, 2, 7);
        check.equal("count(1)", x.count(1), 0);
        // Lines 0 and 3: likewise.
        x = Nets.net(5, 1, 9);
        x.put(11, 13, 1, 0);
        x.put(17, 7, 1, 0);
        check.cycles(x, 2, 2);
        check.flit(x, 13, 0, 11);
        check.flit(x, 7, 3, 17);
        check.equal("count(1)", x.count(1), 0);
        // Lines 0 and 1: they are in one cell, so the lower one has to go down.
        x = Nets.cross(Nets.net(5, 1, 9), 2);
        check.cycles(x, 2);
        check.flit(x, 13, 0, 11);
        check.flit(x, 17, 2, 13);
        check.equal("count(1)", x.count(1), 1);
    }

    private static void higherGoesUpOrDown(Check check) {
        check.sentence("Terms", "in each the flit of higher rank goes up if way 0 or 1 is wanted, else down,"
                + " the other one the other way.");
        // The higher one wants way 3 alone and goes down; the other one goes up, and wants way 0.
        FlitTorus x = Nets.net(5, 1, 9);
        x.put(5, 1, 1, 0);
        x.cycle();
        x.put(6, 7, 1, 0);
        x.cycle();
        check.flit(x, 1, 3, 5);
        check.flit(x, 7, 0, 6);
        check.equal("count(1)", x.count(1), 0);
        // The same, but the other one wants way 2: it has to go up all the same.
        x = Nets.net(5, 1, 9);
        x.put(5, 1, 1, 0);
        x.cycle();
        x.put(6, 11, 1, 0);
        x.cycle();
        check.flit(x, 1, 3, 5);
        check.flit(x, 7, 0, 6);
        check.equal("count(1)", x.count(1), 1);
        // The higher one wants way 1 and goes up; the other one, which wants way 0, has to go down.
        x = Nets.net(5, 1, 9);
        x.put(7, 5, 1, 0);
        x.cycle();
        x.put(6, 7, 1, 0);
        x.cycle();
        check.flit(x, 5, 1, 7);
        check.flit(x, 11, 2, 6);
        // It wants ways 0 and 3: up goes before down.
        x = Nets.net(5, 1, 9);
        x.put(6, 2, 1, 0);
        x.cycle();
        check.flit(x, 7, 0, 6);
    }

    private static void wayByTheLastCells(Check check) {
        check.sentence("Terms", "the one of higher rank gets way 0 (in the fourth 2), if it is wanted,"
                + " or if way 1 (3) isn't, else way 1 (3); the other one the other way.");
        int[] goals = {7, 5, 11, 1};
        for (int way = 0; way < 4; way++) {
            FlitTorus x = Nets.net(5, 1, 9);
            x.put(6, goals[way], 1, 0);
            x.cycle();
            check.flit(x, goals[way], way, 6);
        }
        // Half way round both ways are wanted, and the lower one is got.
        FlitTorus x = Nets.net(4, 1, 9);
        x.put(5, 7, 1, 0);
        x.cycle();
        check.flit(x, 6, 0, 5);
        x = Nets.net(4, 1, 9);
        x.put(5, 13, 1, 0);
        x.cycle();
        check.flit(x, 9, 2, 5);
        // In the fourth cell one that wants neither: two leave at their goal, and the third goes down, to way 2.
        x = Nets.net(3, 1, 9);
        x.put(5, 4, 1, 0);
        x.put(3, 4, 1, 0);
        x.put(1, 4, 1, 0);
        check.cycles(x, 3, 1);
        check.flit(x, 7, 2, 5);
        // In the third cell one that wants neither: it had to go up, and gets way 0.
        x = Nets.net(5, 1, 9);
        x.put(5, 1, 1, 0);
        x.cycle();
        x.put(6, 1, 1, 0);
        x.cycle();
        check.flit(x, 1, 3, 5);
        check.flit(x, 7, 0, 6);
    }

    private static void fromTheSecondCell(Check check) {
        check.sentence("Terms", "(From the second cell, likewise.)");
        // On lines 2 and 3 of node 12: 7 goes down, as it wants way 2, and 17 up, to way 0.
        FlitTorus x = Nets.net(5, 1, 9);
        x.put(7, 17, 1, 0);
        x.put(17, 7, 1, 0);
        x.cycle();
        x.cycle();
        check.flit(x, 17, 2, 7);
        check.flit(x, 13, 0, 17);
        check.equal("count(1)", x.count(1), 1);
    }

    private static void oneIsMissing(Check check) {
        check.sentence("Terms", "Of two in a cell one may be missing.");
        int[] from = {11, 13, 7, 17};
        int[] to = {13, 11, 17, 7};
        for (int line = 0; line < 4; line++) {
            FlitTorus x = Nets.net(5, 1, 9);
            x.put(from[line], to[line], 1, 0);
            check.cycles(x, 1, 1);
            check.flit(x, to[line], line, from[line]);
            check.equal("count(1)", x.count(1), 0);
        }
    }

    private static void cellsAreFull(Check check) {
        check.sentence("Terms", "The two that went up come to a third cell, the two that went down to a fourth");
        // Up go 11, which is before, and 17; down go 7, which is before, and 13.
        FlitTorus x = Nets.cross(Nets.net(5, 1, 9), 4);
        check.cycles(x, 4);
        check.flit(x, 13, 0, 11);
        check.flit(x, 11, 1, 17);
        check.flit(x, 17, 2, 7);
        check.flit(x, 7, 3, 13);
        check.equal("count(1)", x.count(1), 2);
    }

    private static void deflected(Check check) {
        check.sentence("Terms", "A flit is DEFLECTED, if the way that it gets isn't wanted.");
        for (int mode = 0; mode <= 1; mode++) {
            FlitTorus x = Nets.net(5, mode, 9);
            x.put(5, 7, 1, 0);
            x.cycle();
            x.put(6, 7, 1, 0);
            x.cycle();
            check.equal("the older one is not, the other is: count(1)", x.count(1), 1);
            x.cycle();
            check.equal("it gets a wanted way again: count(1)", x.count(1), 1);
            // Four come to their goal; two leave, and what does not is deflected, whatever way it gets.
            x = Nets.net(5, mode, 9);
            int[] from = {7, 11, 13, 17};
            for (int one : from) {
                x.put(one, 12, 1, 0);
            }
            check.cycles(x, 4, 2);
            check.equal("count(1)", x.count(1), 2);
        }
    }
}
