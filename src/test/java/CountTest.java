/** Promise 8: count. */
final class CountTest {
    public static void main(String[] args) {
        Check check = new Check("CountTest");
        check.run(CountTest::allAtFirst, CountTest::flitsInTheNet, CountTest::deflected, CountTest::receivedOrLost,
                CountTest::cycleToCome, CountTest::askedFor, CountTest::turn, CountTest::anotherWhat);
        check.end();
    }

    private static void allAtFirst(Check check) {
        check.sentence("Promise 8", "Flits in the net (what 0), how many were deflected so far (1), received or lost"
                + " at their goals so far (2), the cycle to come (3), packets lost that were asked for so far (4),"
                + " the TURN (5).");
        FlitTorus x = Nets.net(5, 0, 9);
        check.counts(x, 0, 0, 0, 0, 0, 0);
        x.put(5, 7, 2, 0);
        check.counts(x, 0, 0, 0, 0, 0, 0);
        x.cycle();
        check.counts(x, 1, 0, 0, 1, 0, 0);
        x.put(6, 7, 1, 0);
        x.cycle();
        check.counts(x, 3, 1, 0, 2, 0, 0);
        // Flit 0 leaves; flit 1 and the deflected one come to nodes 6 and 5, whence both want way 0.
        x.cycle();
        check.counts(x, 2, 1, 1, 3, 0, 0);
        x.cycle();
        check.counts(x, 1, 1, 2, 4, 0, 0);
        x.cycle();
        check.counts(x, 0, 1, 3, 5, 0, 0);
        x.cycle();
        check.counts(x, 0, 1, 3, 6, 0, 0);
    }

    private static void flitsInTheNet(Check check) {
        check.sentence("Promise 8", "Flits in the net (what 0)");
        FlitTorus x = Nets.net(5, 0, 9);
        for (int i = 0; i < 4; i++) {
            x.put(0, 2, 8, 0);
        }
        check.equal("what waits is not in the net: count(0)", x.count(0), 0);
        int[] due = {1, 2, 2, 2};
        for (int one : due) {
            x.cycle();
            check.equal("count(0)", x.count(0), one);
        }
    }

    private static void deflected(Check check) {
        check.sentence("Promise 8", "how many were deflected so far (1)");
        for (int mode = 0; mode <= 1; mode++) {
            FlitTorus x = Nets.net(5, mode, 9);
            int[] from = {7, 11, 13, 17};
            for (int one : from) {
                x.put(one, 12, 1, 0);
            }
            int[] due = {0, 2, 2, 2};
            for (int one : due) {
                x.cycle();
                check.equal("count(1)", x.count(1), one);
            }
        }
    }

    private static void receivedOrLost(Check check) {
        check.sentence("Promise 8", "received or lost at their goals so far (2)");
        FlitTorus x = Nets.net(3, 0, 9);
        Nets.fill(x, 2, 1);
        check.equal("count(2)", x.count(2), 8);
        x.put(0, 1, 8, 0);
        x.cycle();
        for (int lost = 1; lost <= 8; lost++) {
            x.cycle();
            check.equal("count(2)", x.count(2), 8 + lost);
        }
        x.take(1);
        Nets.run(x, 2);
        for (int received = 1; received <= 8; received++) {
            x.cycle();
            check.equal("count(2)", x.count(2), 16 + received);
        }
    }

    private static void cycleToCome(Check check) {
        check.sentence("Promise 8", "the cycle to come (3)");
        FlitTorus x = Nets.net(8, 1, 9);
        for (int cycle = 0; cycle < 40; cycle++) {
            check.equal("count(3)", x.count(3), cycle);
            x.put(0, 1, 1, 0);
            check.equal("nothing but cycle() counts: count(3)", x.count(3), cycle);
            x.cycle();
        }
    }

    private static void askedFor(Check check) {
        check.sentence("Promise 8", "packets lost that were asked for so far (4)");
        FlitTorus x = Nets.net(3, 0, 9);
        Nets.fill(x, 2, 1);
        for (int i = 0; i < 3; i++) {
            x.put(0, 1, 2, 0);
        }
        int[] due = {0, 1, 1, 2, 2, 3, 3, 3};
        for (int one : due) {
            x.cycle();
            check.equal("count(4)", x.count(4), one);
        }
        // What has left the row was asked for all the same.
        x.take(1);
        x.take(1);
        check.equal("node(1, 4)", x.node(1, 4), 1);
        check.equal("count(4)", x.count(4), 3);
    }

    private static void turn(Check check) {
        check.sentence("Promise 8", "the TURN (5)");
        FlitTorus x = Nets.crossing(2);
        int[] due = {0, 0, 0, 7, 8, 6, 6};
        for (int one : due) {
            x.cycle();
            check.equal("count(5)", x.count(5), one);
        }
    }

    private static void anotherWhat(Check check) {
        check.sentence("Promise 8", "NONE for another what.");
        FlitTorus x = Nets.net(3, 0, 9);
        Nets.fill(x, 2, 1);
        int[] noWhats = {-1, 6, 7, Integer.MIN_VALUE, Integer.MAX_VALUE};
        for (int no : noWhats) {
            check.equal("count(" + no + ")", x.count(no), FlitTorus.NONE);
        }
    }
}
