/** Promise 11: flit. */
final class FlitTest {
    private static final int NONE = FlitTorus.NONE;
    private static final String TELLS = "Of the flit on a line of a node (in mode 0 the line is likewise the way that"
            + " it came over): its source (what 0), slot (1), number (2), goal (3), entry (4), TRY (5).";

    public static void main(String[] args) {
        Check check = new Check("FlitTest");
        for (int mode = 0; mode <= 1; mode++) {
            int one = mode;
            check.run(c -> everyLine(c, one), c -> onTheWay(c, one), c -> highestNumbers(c, one));
        }
        check.run(FlitTest::lineOfTwoLinks, FlitTest::secondTry, FlitTest::firstTryBesideGo, FlitTest::thereIsNone,
                FlitTest::noSuchNode, FlitTest::noSuchLine, FlitTest::noSuchWhat);
        check.end();
    }

    private static void everyLine(Check check, int mode) {
        check.sentence("Promise 11", TELLS);
        FlitTorus x = Nets.net(5, mode, 9);
        x.cycle();
        Nets.cross(x, 4);
        int[] from = {11, 13, 7, 17};
        int[] to = {13, 11, 17, 7};
        for (int line = 0; line < 4; line++) {
            check.flit(x, 12, line, from[line], 0, 0, to[line], 1, 1);
        }
    }

    private static void onTheWay(Check check, int mode) {
        check.sentence("Promise 11", TELLS);
        FlitTorus x = Nets.net(8, mode, 9);
        x.put(60, 63, 2, 9);
        x.put(60, 63, 2, 8);
        x.cycle();
        check.flit(x, 61, 0, 60, 0, 0, 63, 0, 1);
        x.cycle();
        check.flit(x, 61, 0, 60, 0, 1, 63, 1, 1);
        check.flit(x, 62, 0, 60, 0, 0, 63, 0, 1);
        x.cycle();
        check.flit(x, 61, 0, 60, 1, 0, 63, 2, 1);
        check.flit(x, 62, 0, 60, 0, 1, 63, 1, 1);
        check.flit(x, 63, 0, 60, 0, 0, 63, 0, 1);
        x.cycle();
        check.flit(x, 61, 0, 60, 1, 1, 63, 3, 1);
        check.flit(x, 63, 0, 60, 0, 1, 63, 1, 1);
    }

    private static void highestNumbers(Check check, int mode) {
        check.sentence("Promise 11", "its source (what 0), slot (1), number (2)");
        FlitTorus x = Nets.net(8, mode, 9);
        Nets.send(x, 63, 27, 7, 0);
        x.put(63, 62, 8, 0);
        Nets.run(x, 8);
        check.flit(x, 62, 1, 63, 7, 7, 62, 14, 1);
    }

    /** Ways 0 and 1 lead to the same node in the smallest net, but a flit's line still tells which it came over. */
    private static void lineOfTwoLinks(Check check) {
        check.sentence("Promise 11", "(in mode 0 the line is likewise the way that it came over)");
        FlitTorus x = new FlitTorus();
        x.put(0, 1, 1, 5);
        x.cycle();
        check.flit(x, 1, 0, 0, 0, 0, 1, 0, 1);
        check.noFlit(x, 1, 1);
        x = new FlitTorus();
        x.link(0, 0, false);
        x.put(0, 1, 1, 5);
        x.cycle();
        check.flit(x, 1, 1, 0, 0, 0, 1, 0, 1);
        check.noFlit(x, 1, 0);
    }

    private static void secondTry(Check check) {
        check.sentence("Promise 11", "entry (4), TRY (5).");
        FlitTorus x = Nets.net(3, 0, 9);
        Nets.fill(x, 2, 1);
        x.put(0, 1, 2, 100);
        x.cycle();
        check.flit(x, 1, 0, 0, 0, 0, 1, 9, 1);
        Nets.run(x, 2);
        x.take(1);
        Nets.run(x, 2);
        check.flit(x, 1, 0, 0, 0, 0, 1, 13, 2);
        x.cycle();
        check.flit(x, 1, 0, 0, 0, 1, 1, 14, 2);
    }

    /** A flit's TRY is that with which it entered, also when GO has been told for its packet. */
    private static void firstTryBesideGo(Check check) {
        check.sentence("Promise 11", "entry (4), TRY (5).");
        FlitTorus x = Nets.net(5, 0, 9);
        Nets.fill(x, 7, 2);
        x.put(0, 2, 8, 100);
        Nets.run(x, 3);
        x.take(2);
        Nets.run(x, 3);
        check.equal("GO was told: node(0, 8)", x.node(0, 8), 1);
        check.flit(x, 2, 0, 0, 0, 4, 2, 13, 1);
        x.cycle();
        check.flit(x, 1, 0, 0, 0, 0, 2, 15, 2);
    }

    private static void thereIsNone(Check check) {
        check.sentence("Promise 11", "NONE when there is none");
        FlitTorus x = Nets.net(5, 0, 9);
        x.put(11, 13, 1, 0);
        check.flit(x, 11, 0, NONE, NONE, NONE, NONE, NONE, NONE);
        x.cycle();
        check.flit(x, 12, 0, 11, 0, 0, 13, 0, 1);
        for (int line = 1; line < 4; line++) {
            check.flit(x, 12, line, NONE, NONE, NONE, NONE, NONE, NONE);
        }
        check.flit(x, 11, 0, NONE, NONE, NONE, NONE, NONE, NONE);
        x.cycle();
        check.flit(x, 12, 0, NONE, NONE, NONE, NONE, NONE, NONE);
        check.flit(x, 13, 0, 11, 0, 0, 13, 0, 1);
        x.cycle();
        check.flit(x, 13, 0, NONE, NONE, NONE, NONE, NONE, NONE);
    }

    private static void noSuchNode(Check check) {
        check.sentence("Promise 11", "or no such node");
        FlitTorus x = Nets.cross(Nets.net(5, 0, 9), 4);
        for (int line = 0; line < 4; line++) {
            check.noFlit(x, 25, line);
            for (int no : Nets.NEVER_NODES) {
                check.noFlit(x, no, line);
            }
        }
    }

    private static void noSuchLine(Check check) {
        check.sentence("Promise 11", "no such node, line or what.");
        FlitTorus x = Nets.cross(Nets.net(5, 0, 9), 4);
        int[] noLines = {-1, 4, 5, Integer.MIN_VALUE, Integer.MAX_VALUE};
        for (int no : noLines) {
            check.flit(x, 12, no, NONE, NONE, NONE, NONE, NONE, NONE);
            check.noFlit(x, 0, no);
            check.noFlit(x, 24, no);
        }
    }

    private static void noSuchWhat(Check check) {
        check.sentence("Promise 11", "line or what.");
        FlitTorus x = Nets.cross(Nets.net(5, 0, 9), 4);
        int[] noWhats = {-1, 6, 7, Integer.MIN_VALUE, Integer.MAX_VALUE};
        for (int no : noWhats) {
            for (int line = 0; line < 4; line++) {
                check.equal("flit(12, " + line + ", " + no + ")", x.flit(12, line, no), NONE);
            }
        }
    }
}
