import java.util.ArrayList;
import java.util.List;

/** Promise 1: a new object is as after reset(2, 0, 1). */
final class NewObjectTest {
    public static void main(String[] args) {
        Check check = new Check("NewObjectTest");
        nothingIsThere(check);
        sameAnswers(check);
        check.end();
    }

    private static void nothingIsThere(Check check) {
        FlitTorus x = new FlitTorus();
        for (int what = 0; what <= 5; what++) {
            check.equal("count(" + what + ")", x.count(what), 0);
        }
        for (int node = 0; node < 4; node++) {
            for (int what = 0; what <= 8; what++) {
                check.equal("node(" + node + ", " + what + ")", x.node(node, what), 0);
            }
            check.equal("taken(" + node + ", 0)", x.taken(node, 0), FlitTorus.NONE);
            check.equal("flit(" + node + ", 0, 0)", x.flit(node, 0, 0), FlitTorus.NONE);
            check.takeThrows(x, node, IllegalStateException.class);
        }
        check.equal("node(4, 0)", x.node(4, 0), FlitTorus.NONE);
        check.equal("distance(0, 3)", x.distance(0, 3), 2);
        check.isFalse("link(0, 0, true) of an open one", x.link(0, 0, true));
        check.equal("cycle()", x.cycle(), 0);
        check.isTrue("mode 0: link(0, 0, false)", x.link(0, 0, false));
    }

    private static void sameAnswers(Check check) {
        List<Integer> due = crowdedRun(afterReset(0, 1));
        check.isTrue("a new one answers as after reset(2, 0, 1)", crowdedRun(new FlitTorus()).equals(due));
        // The run tells other modes and patiences from these, or it would show nothing.
        check.isFalse("as after reset(2, 1, 1)", crowdedRun(afterReset(1, 1)).equals(due));
        check.isFalse("as after reset(2, 0, 2)", crowdedRun(afterReset(0, 2)).equals(due));
    }

    private static FlitTorus afterReset(int mode, int patience) {
        FlitTorus x = new FlitTorus();
        x.reset(5, 1, 9);
        x.put(0, 3, 8, 1);
        x.cycle();
        x.reset(2, mode, patience);
        return x;
    }

    private static List<Integer> crowdedRun(FlitTorus x) {
        List<Integer> answers = new ArrayList<>();
        for (int i = 0; i < 60; i++) {
            for (int node = 1; node < 4; node++) {
                answers.add(x.put(node, 0, 8, i) ? 1 : 0);
            }
            answers.add(x.cycle());
            answers.add(x.count(1));
            answers.add(x.count(5));
        }
        return answers;
    }
}
