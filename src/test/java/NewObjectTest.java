import java.util.List;

/** Promise 1: a new object. */
final class NewObjectTest {
    private static final String SENTENCE = "`FlitTorus()`: As after reset(2, 0, 1).";

    public static void main(String[] args) {
        Check check = new Check("NewObjectTest");
        check.run(NewObjectTest::nothingIsThere, NewObjectTest::fourNodes, NewObjectTest::modeNought,
                NewObjectTest::sameAnswers);
        check.end();
    }

    private static void nothingIsThere(Check check) {
        check.sentence("Promise 1", SENTENCE);
        FlitTorus x = new FlitTorus();
        check.counts(x, 0, 0, 0, 0, 0, 0);
        for (int node = 0; node < 4; node++) {
            check.node(x, node, 0, 0, 0, 0, 0, 0, 0, 0, 0);
            check.taken(x, node, FlitTorus.NONE, FlitTorus.NONE, FlitTorus.NONE);
            for (int line = 0; line < 4; line++) {
                check.noFlit(x, node, line);
            }
            check.takeThrows(x, node, IllegalStateException.class);
        }
        check.cycles(x, 0);
    }

    private static void fourNodes(Check check) {
        check.sentence("Promise 1", SENTENCE);
        FlitTorus x = new FlitTorus();
        check.equal("node(3, 0)", x.node(3, 0), 0);
        check.equal("node(4, 0)", x.node(4, 0), FlitTorus.NONE);
        check.equal("distance(0, 3)", x.distance(0, 3), 2);
        check.isTrue("put(0, 3, 1, 1)", x.put(0, 3, 1, 1));
        check.isFalse("put(0, 4, 1, 1)", x.put(0, 4, 1, 1));
    }

    private static void modeNought(Check check) {
        check.sentence("Promise 1", SENTENCE);
        FlitTorus x = new FlitTorus();
        for (int way = 0; way < 4; way++) {
            check.isFalse("all links are open: link(0, " + way + ", true)", x.link(0, way, true));
        }
        check.isTrue("mode 0: link(0, 0, false)", x.link(0, 0, false));
    }

    private static void sameAnswers(Check check) {
        check.sentence("Promise 1", SENTENCE);
        List<Integer> due = Nets.crowdedRun(afterReset(0, 1), 50);
        check.isTrue("a new one answers as after reset(2, 0, 1)", Nets.crowdedRun(new FlitTorus(), 50).equals(due));
        // The run tells other modes and patiences from these, or it would show nothing.
        check.isFalse("as after reset(2, 1, 1)", Nets.crowdedRun(afterReset(1, 1), 50).equals(due));
        check.isFalse("as after reset(2, 0, 2)", Nets.crowdedRun(afterReset(0, 2), 50).equals(due));
    }

    private static FlitTorus afterReset(int mode, int patience) {
        FlitTorus x = new FlitTorus();
        x.reset(5, 1, 9);
        x.put(0, 3, 8, 1);
        x.cycle();
        x.reset(2, mode, patience);
        return x;
    }
}
