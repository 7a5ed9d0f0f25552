/** Promise 8: count. (What 4 and 5 are also looked at in CycleTest.) */
final class CountTest {
    public static void main(String[] args) {
        Check check = new Check("CountTest");
        FlitTorus x = new FlitTorus();
        x.reset(5, 0, 9);
        counts(check, x, 0, 0, 0, 0, 0, 0);
        x.put(5, 7, 2, 0);
        counts(check, x, 0, 0, 0, 0, 0, 0);
        x.cycle();
        counts(check, x, 1, 0, 0, 1, 0, 0);
        x.put(6, 7, 1, 0);
        x.cycle();
        counts(check, x, 3, 1, 0, 2, 0, 0);
        // Flit 0 leaves; flit 1 and the deflected one come to nodes 6 and 5, whence both want way 0.
        x.cycle();
        counts(check, x, 2, 1, 1, 3, 0, 0);
        x.cycle();
        counts(check, x, 1, 1, 2, 4, 0, 0);
        x.cycle();
        counts(check, x, 0, 1, 3, 5, 0, 0);
        x.cycle();
        counts(check, x, 0, 1, 3, 6, 0, 0);
        int[] noWhats = {-1, 6, 7, Integer.MIN_VALUE, Integer.MAX_VALUE};
        for (int no : noWhats) {
            check.equal("count(" + no + ")", x.count(no), FlitTorus.NONE);
        }
        turnGoesRound(check);
        check.end();
    }

    private static void counts(Check check, FlitTorus x, int... due) {
        for (int what = 0; what < due.length; what++) {
            check.equal("count(" + what + ")", x.count(what), due[what]);
        }
    }

    /** The turn behind the last node's is node 0's: node 24 is starved between nodes 23 and 20. */
    private static void turnGoesRound(Check check) {
        FlitTorus x = new FlitTorus();
        x.reset(5, 0, 2);
        x.link(24, 2, false);
        x.link(24, 3, false);
        x.put(23, 20, 8, 1);
        x.put(20, 23, 8, 2);
        x.cycle();
        x.put(24, 20, 1, 3);
        x.cycle();
        x.cycle();
        check.equal("node(24, 7)", x.node(24, 7), 2);
        x.cycle();
        check.equal("node(24, 7)", x.node(24, 7), 3);
        check.equal("count(5)", x.count(5), 0);
        x.cycle();
        check.equal("node(24, 7)", x.node(24, 7), 0);
        check.equal("node(20, 7)", x.node(20, 7), 2);
        check.equal("count(5)", x.count(5), 0);
        // From 0 on the first one starved is 20, not 23.
        x.cycle();
        check.equal("node(20, 7)", x.node(20, 7), 0);
        check.equal("node(23, 7)", x.node(23, 7), 3);
        check.equal("count(5)", x.count(5), 21);
        x.cycle();
        check.equal("count(5)", x.count(5), 24);
    }
}
