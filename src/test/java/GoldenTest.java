/** Promise 10: golden. (That the golden flit goes first is looked at in CycleTest.) */
final class GoldenTest {
    public static void main(String[] args) {
        Check check = new Check("GoldenTest");
        wholeNets(check);
        closedLinks(check);
        noSuch(check);
        check.end();
    }

    private static void golden(Check check, FlitTorus x, int node, int slot, int number) {
        String then = " before cycle " + x.count(3);
        check.equal("golden(0)" + then, x.golden(0), node);
        check.equal("golden(1)" + then, x.golden(1), slot);
        check.equal("golden(2)" + then, x.golden(2), number);
    }

    private static void run(FlitTorus x, int cycles) {
        for (int i = 0; i < cycles; i++) {
            x.cycle();
        }
    }

    private static void wholeNets(Check check) {
        // The greatest distances are 2, 2, 4, 4, 6, 6, 8.
        int[] spans = {20, 20, 24, 24, 28, 28, 32};
        for (int n = 2; n <= 8; n++) {
            FlitTorus x = new FlitTorus();
            x.reset(n, n % 2, 1);
            int span = spans[n - 2];
            golden(check, x, 0, 0, 0);
            run(x, span - 1);
            golden(check, x, 0, 0, 0);
            run(x, 1);
            golden(check, x, 0, 0, 1);
            run(x, 6 * span);
            golden(check, x, 0, 0, 7);
            run(x, span - 1);
            golden(check, x, 0, 0, 7);
            run(x, 1);
            golden(check, x, 0, 1, 0);
            x.reset(n, 0, 1);
            golden(check, x, 0, 0, 0);
        }
    }

    private static void closedLinks(Check check) {
        FlitTorus x = new FlitTorus();
        x.reset(2, 0, 1);
        x.link(0, 0, false);
        run(x, 20);
        golden(check, x, 0, 0, 1);
        // Over neither link between 0 and 1 the greatest distance is 3.
        x.link(0, 1, false);
        check.equal("distance(0, 1)", x.distance(0, 1), 3);
        golden(check, x, 0, 0, 0);
        run(x, 2);
        golden(check, x, 0, 0, 1);
    }

    private static void noSuch(Check check) {
        FlitTorus x = new FlitTorus();
        int[] noWhats = {-1, 3, Integer.MIN_VALUE, Integer.MAX_VALUE};
        for (int no : noWhats) {
            check.equal("golden(" + no + ")", x.golden(no), FlitTorus.NONE);
        }
    }
}
