/** Terms: the rank of flits, and the golden one. */
final class TermsRankTest {
    private static final String GOLDEN = "with L = 2 * (the greatest d + 8) and g the rest of c / L (cut)"
            + " by n * n * 64, the flit g % 8 of the packet in slot g / 8 % 8 of node g / 64.";

    public static void main(String[] args) {
        Check check = new Check("TermsRankTest");
        check.run(TermsRankTest::goldenBeforeOlder, TermsRankTest::olderBeforeLesserSource,
                TermsRankTest::lesserSource, TermsRankTest::lastCycleOfTheGoldenOne,
                TermsRankTest::anotherNumberSlotOrNode, TermsRankTest::nextNumberThenNextSlot);
        check.end();
    }

    /** A flit of 49 and, a cycle later, one of 0 meet at node 1 of 64 and want its way 2 alone. */
    private static FlitTorus meetAtNodeOne(int cyclesBefore) {
        FlitTorus x = Nets.net(8, 0, 9);
        Nets.run(x, cyclesBefore);
        x.put(49, 17, 1, 0);
        x.cycle();
        x.put(0, 17, 1, 0);
        x.cycle();
        return x;
    }

    private static void goldenBeforeOlder(Check check) {
        check.sentence("Terms", "RANK: the golden flit; then the lesser entry;");
        FlitTorus x = meetAtNodeOne(0);
        check.flit(x, 1, 0, 0, 0, 0, 17, 1);
        check.flit(x, 1, 2, 49, 0, 0, 17, 0);
        x.cycle();
        check.flit(x, 9, 2, 0);
        check.flit(x, 2, 0, 49);
        check.equal("count(1)", x.count(1), 1);
    }

    private static void olderBeforeLesserSource(Check check) {
        check.sentence("Terms", "then the lesser entry; then the lesser source");
        FlitTorus x = Nets.net(5, 0, 9);
        x.put(8, 6, 1, 0);
        x.cycle();
        x.put(7, 6, 1, 0);
        // Both want way 1 of node 7 alone.
        check.cycles(x, 2);
        check.flit(x, 6, 1, 8, 0, 0, 6, 0);
        check.flit(x, 8, 0, 7, 0, 0, 6, 1);
        check.equal("count(1)", x.count(1), 1);
    }

    /**
     * What stands behind the source can't decide: of one source one flit enters a cycle, so two
     * flits of the same entry and source never are.
     */
    private static void lesserSource(Check check) {
        check.sentence("Terms", "then the lesser source, slot, number of flit.");
        FlitTorus x = Nets.net(7, 0, 9);
        // They meet at node 1, on lines 1 and 2, and want its way 2 alone; neither is golden.
        x.put(2, 15, 1, 0);
        x.put(43, 15, 1, 0);
        x.cycle();
        check.flit(x, 1, 1, 2);
        check.flit(x, 1, 2, 43);
        x.cycle();
        check.flit(x, 8, 2, 2);
        check.flit(x, 2, 0, 43);
        // They meet at node 16, on lines 2 and 0: the lesser source is on the higher line here.
        x = Nets.net(7, 0, 9);
        x.put(9, 23, 1, 0);
        x.put(15, 23, 1, 0);
        x.cycle();
        check.flit(x, 16, 2, 9);
        check.flit(x, 16, 0, 15);
        x.cycle();
        check.flit(x, 23, 2, 9);
        check.flit(x, 17, 0, 15);
    }

    private static void lastCycleOfTheGoldenOne(Check check) {
        check.sentence("Terms", GOLDEN);
        // L is 32: they meet in cycle 31, the last one in which flit 0 of slot 0 of node 0 is golden, or in cycle 32.
        FlitTorus x = meetAtNodeOne(29);
        check.equal("count(3)", x.count(3), 31);
        x.cycle();
        check.flit(x, 9, 2, 0);
        check.flit(x, 2, 0, 49);
        x = meetAtNodeOne(30);
        check.equal("count(3)", x.count(3), 32);
        x.cycle();
        check.flit(x, 9, 2, 49);
        check.flit(x, 2, 0, 0);
    }

    /** In the third cycle a flit of 49 meets, at node 1 and wanting its way 2 alone, one that entered a cycle later. */
    private static void meet(Check check, FlitTorus x, int winner, int loser) {
        x.put(49, 17, 1, 0);
        Nets.run(x, 2);
        check.equal("node(1, 5)", x.node(1, 5), 2);
        x.cycle();
        check.flit(x, 9, 2, winner);
        check.flit(x, 2, 0, loser);
    }

    private static void anotherNumberSlotOrNode(Check check) {
        check.sentence("Terms", "the flit g % 8 of the packet in slot g / 8 % 8 of node g / 64.");
        // Flit 1 of the packet in slot 0 of node 0.
        FlitTorus x = Nets.net(8, 0, 9);
        x.put(0, 17, 2, 0);
        meet(check, x, 49, 0);
        // Flit 0 of the packet in its slot 1.
        x = Nets.net(8, 0, 9);
        x.put(0, 8, 1, 0);
        x.put(0, 17, 1, 0);
        meet(check, x, 49, 0);
        // Flit 0 of the packet in slot 0 of node 2, which enters behind that of 49.
        x = Nets.net(8, 0, 9);
        x.put(49, 17, 1, 0);
        x.cycle();
        x.put(2, 17, 1, 0);
        Nets.run(x, 2);
        check.flit(x, 9, 2, 49);
        check.flit(x, 2, 0, 2);
    }

    private static void nextNumberThenNextSlot(Check check) {
        check.sentence("Terms", GOLDEN);
        FlitTorus x = Nets.net(8, 0, 9);
        Nets.run(x, 32);
        x.put(0, 17, 2, 0);
        meet(check, x, 0, 49);
        // Behind the eighth flit of slot 0 comes the first one of slot 1.
        x = Nets.net(8, 0, 9);
        Nets.run(x, 8 * 32);
        x.put(0, 8, 1, 0);
        x.put(0, 17, 1, 0);
        meet(check, x, 0, 49);
    }
}
