/** Promise 5: cycle. (Its steps, one by one, are held against the document in the tests of the terms.) */
final class CycleTest {
    private static final String SENTENCE = "One cycle: how many flits went over ways.";

    public static void main(String[] args) {
        Check check = new Check("CycleTest");
        check.run(CycleTest::emptyNet, CycleTest::onePacket, CycleTest::leavingIsNoWay, CycleTest::fullNet,
                CycleTest::oneCycleEach, CycleTest::lostAndSentAgain);
        check.end();
    }

    private static void emptyNet(Check check) {
        check.sentence("Promise 5", SENTENCE);
        for (int n = 2; n <= 8; n++) {
            check.cycles(Nets.net(n, n % 2, 1), 0, 0, 0);
        }
    }

    private static void onePacket(Check check) {
        check.sentence("Promise 5", SENTENCE);
        FlitTorus x = Nets.net(4, 0, 9);
        x.put(0, 2, 3, 1);
        // One flit enters a cycle; each goes two ways and leaves in the cycle behind.
        check.cycles(x, 1, 2, 2, 1, 0, 0);
        check.counts(x, 0, 0, 3, 6);
    }

    private static void leavingIsNoWay(Check check) {
        check.sentence("Promise 5", SENTENCE);
        FlitTorus x = Nets.net(5, 0, 9);
        int[] from = {7, 11, 13, 17};
        for (int one : from) {
            x.put(one, 12, 1, 0);
        }
        // Four come; two leave and two go round; those leave then.
        check.cycles(x, 4, 2, 2, 0);
    }

    private static void fullNet(Check check) {
        check.sentence("Promise 5", SENTENCE);
        for (int mode = 0; mode <= 1; mode++) {
            FlitTorus x = Nets.net(2, mode, 3);
            int out = 0;
            for (int i = 0; i < 40; i++) {
                x.put(1 + i % 3, 0, 8, 0);
                x.put(1 + (i + 1) % 3, 0, 8, 0);
                int moved = x.cycle();
                check.equal("all that are in the net: count(0)", x.count(0), moved);
                out += moved;
            }
            check.equal("all that went out", x.node(0, 6) + x.node(1, 6) + x.node(2, 6) + x.node(3, 6), out);
        }
    }

    private static void oneCycleEach(Check check) {
        check.sentence("Promise 5", "One cycle");
        FlitTorus x = Nets.net(3, 0, 1);
        for (int cycle = 0; cycle < 250; cycle++) {
            check.equal("count(3)", x.count(3), cycle);
            x.cycle();
        }
    }

    /** All of it in one run: four are READY, four have places, the ninth is lost, asked for, and comes again. */
    private static void lostAndSentAgain(Check check) {
        check.sentence("Promise 5", SENTENCE);
        FlitTorus x = Nets.net(3, 0, 9);
        for (int tag = 1; tag <= 9; tag++) {
            x.put(0, 1, 1, tag);
            check.cycles(x, 1);
        }
        check.cycles(x, 0);
        check.node(x, 1, 0, 0, 4, 4, 1);
        check.node(x, 0, 0, 5);
        check.takes(x, 1, 1);
        check.node(x, 1, 0, 0, 4, 4, 0);
        check.cycles(x, 0);
        check.node(x, 0, 0, 5);
        // DONE for the fifth and GO for the ninth are told, and the ninth enters again.
        check.cycles(x, 1);
        check.node(x, 0, 0, 4, 0, 0, 0, 0, 10, 0, 0);
        check.flit(x, 1, 0, 0, 4, 0, 1, 11, 2);
        check.cycles(x, 0);
        check.counts(x, 0, 0, 10, 13, 1, 0);
        check.takes(x, 1, 2, 3, 4, 5, 9, 6, 7, 8);
        check.takeThrows(x, 1, IllegalStateException.class);
        check.cycles(x, 0, 0);
        check.node(x, 0, 0, 0);
    }
}
