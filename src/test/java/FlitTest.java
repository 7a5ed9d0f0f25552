/** Promise 11: flit. */
final class FlitTest {
    private static final int NONE = FlitTorus.NONE;

    public static void main(String[] args) {
        Check check = new Check("FlitTest");
        for (int mode = 0; mode <= 1; mode++) {
            everyLine(check, mode);
            onTheWay(check, mode);
        }
        smallestNet(check);
        check.end();
    }

    private static void everyLine(Check check, int mode) {
        FlitTorus x = new FlitTorus();
        x.reset(5, mode, 9);
        x.cycle();
        // They come over ways 0, 1, 2 and 3 of the nodes round node 12.
        int[] from = {11, 13, 7, 17};
        int[] to = {13, 11, 17, 7};
        for (int i = 0; i < 4; i++) {
            x.put(from[i], to[i], 1, 0);
        }
        x.cycle();
        for (int line = 0; line < 4; line++) {
            check.flit(x, 12, line, from[line], 0, 0, to[line], 1, 1);
        }
        int[] no = {-1, 4, Integer.MIN_VALUE, Integer.MAX_VALUE};
        for (int one : no) {
            check.equal("flit(12, " + one + ", 0)", x.flit(12, one, 0), NONE);
        }
        int[] noWhats = {-1, 6, Integer.MIN_VALUE, Integer.MAX_VALUE};
        for (int one : noWhats) {
            check.equal("flit(12, 0, " + one + ")", x.flit(12, 0, one), NONE);
        }
        int[] noNodes = {-1, 25, 64, Integer.MIN_VALUE, Integer.MAX_VALUE};
        for (int one : noNodes) {
            check.equal("flit(" + one + ", 0, 0)", x.flit(one, 0, 0), NONE);
        }
        check.flit(x, 11, 0, NONE, NONE, NONE, NONE, NONE, NONE);
    }

    private static void onTheWay(Check check, int mode) {
        FlitTorus x = new FlitTorus();
        x.reset(8, mode, 9);
        x.put(60, 63, 2, 9);
        x.put(60, 63, 2, 8);
        x.cycle();
        check.flit(x, 61, 0, 60, 0, 0, 63, 0, 1);
        x.cycle();
        check.flit(x, 61, 0, 60, 0, 1, 63, 1, 1);
        check.flit(x, 62, 0, 60, 0, 0, 63, 0, 1);
        x.cycle();
        check.flit(x, 61, 0, 60, 1, 0, 63, 2, 1);
        check.flit(x, 62, 0, 60, 0, 1, 63, 1, 1);
        check.flit(x, 63, 0, 60, 0, 0, 63, 0, 1);
        x.cycle();
        check.flit(x, 61, 0, 60, 1, 1, 63, 3, 1);
        check.flit(x, 63, 0, 60, 0, 1, 63, 1, 1);
        x.cycle();
        check.flit(x, 61, 0, NONE, NONE, NONE, NONE, NONE, NONE);
    }

    /** Ways 0 and 1 lead to the same node here, but a flit's line still tells which it came over. */
    private static void smallestNet(Check check) {
        FlitTorus x = new FlitTorus();
        x.link(0, 0, false);
        x.put(0, 1, 1, 5);
        x.cycle();
        check.flit(x, 1, 1, 0, 0, 0, 1, 0, 1);
        check.equal("flit(1, 0, 0)", x.flit(1, 0, 0), NONE);
    }
}
