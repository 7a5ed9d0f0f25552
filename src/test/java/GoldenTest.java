/** Promise 10: golden. (That the golden flit is of highest rank is looked at in TermsRankTest.) */
final class GoldenTest {
    private static final String TELLS = "The golden one of the cycle to come: its node (what 0), slot (1),"
            + " number of flit (2).";

    public static void main(String[] args) {
        Check check = new Check("GoldenTest");
        check.run(GoldenTest::everySize, GoldenTest::nextSlot, GoldenTest::closedLinks, GoldenTest::allOfARun,
                GoldenTest::anotherWhat);
        check.end();
    }

    private static void golden(Check check, FlitTorus x, int node, int slot, int number) {
        String then = " before cycle " + x.count(3);
        check.equal("golden(0)" + then, x.golden(0), node);
        check.equal("golden(1)" + then, x.golden(1), slot);
        check.equal("golden(2)" + then, x.golden(2), number);
    }

    /** The greatest d of whole nets, for n from 2 to 8, is 2, 2, 4, 4, 6, 6, 8. */
    private static int span(int n) {
        return 2 * (n / 2 * 2 + 8);
    }

    private static void everySize(Check check) {
        check.sentence("Promise 10", TELLS);
        for (int n = 2; n <= 8; n++) {
            FlitTorus x = Nets.net(n, n % 2, 1);
            golden(check, x, 0, 0, 0);
            Nets.run(x, span(n) - 1);
            golden(check, x, 0, 0, 0);
            Nets.run(x, 1);
            golden(check, x, 0, 0, 1);
            Nets.run(x, span(n) - 1);
            golden(check, x, 0, 0, 1);
            Nets.run(x, 1);
            golden(check, x, 0, 0, 2);
            x.reset(n, 0, 1);
            golden(check, x, 0, 0, 0);
        }
    }

    private static void nextSlot(Check check) {
        check.sentence("Promise 10", TELLS);
        for (int n = 2; n <= 8; n++) {
            FlitTorus x = Nets.net(n, n % 2, 1);
            Nets.run(x, 7 * span(n));
            golden(check, x, 0, 0, 7);
            Nets.run(x, span(n) - 1);
            golden(check, x, 0, 0, 7);
            Nets.run(x, 1);
            golden(check, x, 0, 1, 0);
        }
    }

    private static void closedLinks(Check check) {
        check.sentence("Terms", "L = 2 * (the greatest d + 8)");
        FlitTorus x = Nets.net(2, 0, 1);
        x.link(0, 0, false);
        Nets.run(x, 20);
        golden(check, x, 0, 0, 1);
        // Over neither link between 0 and 1 the greatest d is 3, and so L is 22.
        x.link(0, 1, false);
        golden(check, x, 0, 0, 0);
        Nets.run(x, 1);
        golden(check, x, 0, 0, 0);
        Nets.run(x, 1);
        golden(check, x, 0, 0, 1);
        x.link(0, 1, true);
        golden(check, x, 0, 0, 1);
    }

    /** As far as the calls of one object reach: node 1 would be met after 1280 cycles, node 0 again after 5120. */
    private static void allOfARun(Check check) {
        check.sentence("Terms", "the flit g % 8 of the packet in slot g / 8 % 8 of node g / 64.");
        FlitTorus x = Nets.net(2, 1, 1);
        for (int g = 0; g <= 20; g++) {
            golden(check, x, 0, g / 8, g % 8);
            Nets.run(x, 20);
        }
    }

    private static void anotherWhat(Check check) {
        check.sentence("Promise 10", "NONE for another what.");
        FlitTorus x = Nets.net(3, 0, 1);
        int[] noWhats = {-1, 3, 4, Integer.MIN_VALUE, Integer.MAX_VALUE};
        for (int no : noWhats) {
            check.equal("golden(" + no + ")", x.golden(no), FlitTorus.NONE);
        }
    }
}
