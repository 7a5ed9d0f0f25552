/** Promise 7: taken. */
final class TakenTest {
    private static final int NONE = FlitTorus.NONE;
    private static final String TELLS = "Of the packet taken last at a node: its source (what 0), its length (1),"
            + " the TRY with which it came (2).";

    public static void main(String[] args) {
        Check check = new Check("TakenTest");
        check.run(TakenTest::takenLast, TakenTest::secondTry, TakenTest::laterPackets, TakenTest::noSuchNode,
                TakenTest::noSuchWhat, TakenTest::noneWasTaken, TakenTest::behindReset);
        check.end();
    }

    private static FlitTorus threeAreReady() {
        FlitTorus x = Nets.net(3, 1, 5);
        x.put(8, 4, 5, 1);
        x.put(3, 4, 1, 2);
        x.put(0, 5, 8, 3);
        Nets.run(x, 12);
        return x;
    }

    private static void takenLast(Check check) {
        check.sentence("Promise 7", TELLS);
        FlitTorus x = threeAreReady();
        check.takes(x, 4, 2);
        check.taken(x, 4, 3, 1, 1);
        check.takes(x, 4, 1);
        check.taken(x, 4, 8, 5, 1);
        check.takes(x, 5, 3);
        check.taken(x, 5, 0, 8, 1);
        check.taken(x, 4, 8, 5, 1);
        check.takeThrows(x, 4, IllegalStateException.class);
        check.taken(x, 4, 8, 5, 1);
    }

    private static void secondTry(Check check) {
        check.sentence("Promise 7", "the TRY with which it came (2).");
        FlitTorus x = Nets.net(3, 0, 9);
        Nets.fill(x, 2, 1);
        x.put(0, 1, 2, 100);
        Nets.run(x, 3);
        check.takes(x, 1, 1, 2, 3, 4, 5, 6, 7, 8);
        check.taken(x, 1, 2, 1, 1);
        Nets.run(x, 4);
        check.takes(x, 1, 100);
        check.taken(x, 1, 0, 2, 2);
    }

    /** What was taken stays known when its slot and place have other packets. */
    private static void laterPackets(Check check) {
        check.sentence("Promise 7", "Of the packet taken last at a node");
        FlitTorus x = threeAreReady();
        check.takes(x, 4, 2, 1);
        for (int i = 0; i < 12; i++) {
            x.put(7, 4, 3, 70 + i);
            x.put(8, 5, 4, 80 + i);
            x.cycle();
        }
        check.taken(x, 4, 8, 5, 1);
        check.takes(x, 4, 70);
        check.taken(x, 4, 7, 3, 1);
    }

    private static void noSuchNode(Check check) {
        check.sentence("Promise 7", "NONE when there is no such node");
        FlitTorus x = threeAreReady();
        check.takes(x, 4, 2);
        for (int what = 0; what <= 2; what++) {
            check.equal("taken(9, " + what + ")", x.taken(9, what), NONE);
            for (int no : Nets.NEVER_NODES) {
                check.equal("taken(" + no + ", " + what + ")", x.taken(no, what), NONE);
            }
        }
    }

    private static void noSuchWhat(Check check) {
        check.sentence("Promise 7", "no such node or what");
        FlitTorus x = threeAreReady();
        check.takes(x, 4, 2);
        int[] noWhats = {-1, 3, 4, Integer.MIN_VALUE, Integer.MAX_VALUE};
        for (int no : noWhats) {
            check.equal("taken(4, " + no + ")", x.taken(4, no), NONE);
        }
    }

    private static void noneWasTaken(Check check) {
        check.sentence("Promise 7", "or none was taken there.");
        FlitTorus x = threeAreReady();
        check.taken(x, 4, NONE, NONE, NONE);
        check.takes(x, 4, 2);
        for (int node = 0; node < 9; node++) {
            if (node != 4) {
                check.taken(x, node, NONE, NONE, NONE);
            }
        }
    }

    private static void behindReset(Check check) {
        check.sentence("Promise 7", "or none was taken there.");
        FlitTorus x = threeAreReady();
        check.takes(x, 4, 2);
        x.reset(3, 1, 5);
        check.taken(x, 4, NONE, NONE, NONE);
    }
}
