import java.util.List;

/** Promise 4: put. */
final class PutTest {
    public static void main(String[] args) {
        Check check = new Check("PutTest");
        check.run(PutTest::waitsAtItsSource, PutTest::inOrder, PutTest::noSuchNode, PutTest::bothTheSame,
                PutTest::length, PutTest::fourWait, PutTest::fourWaitAtOneNode, PutTest::refusedChangesNothing);
        check.end();
    }

    private static void waitsAtItsSource(Check check) {
        check.sentence("Promise 4", "A packet waits at its source.");
        for (int n = 2; n <= 8; n += 3) {
            FlitTorus x = Nets.net(n, 0, 1);
            int last = n * n - 1;
            check.isTrue("put(0, " + last + ", 1, 0)", x.put(0, last, 1, 0));
            check.isTrue("put(" + last + ", 0, 8, 0)", x.put(last, 0, 8, 0));
            check.node(x, 0, 1, 0, 0, 0, 0, 0, 0, 0, 0);
            check.node(x, last, 1, 0, 0, 0, 0, 0, 0, 0, 0);
            check.equal("count(0)", x.count(0), 0);
            check.equal("count(3)", x.count(3), 0);
        }
    }

    private static void inOrder(Check check) {
        check.sentence("Promise 4", "A packet waits at its source.");
        FlitTorus x = Nets.net(3, 0, 1);
        int[] tags = {Integer.MIN_VALUE, -1, 0, Integer.MAX_VALUE};
        for (int tag : tags) {
            check.isTrue("put(4, 5, 2, " + tag + ")", x.put(4, 5, 2, tag));
        }
        Nets.run(x, 12);
        for (int tag : tags) {
            check.takes(x, 5, tag);
            check.taken(x, 5, 4, 2, 1);
        }
    }

    private static void noSuchNode(Check check) {
        check.sentence("Promise 4", "False, refused, when there is no such node");
        for (int n = 2; n <= 8; n += 3) {
            FlitTorus x = Nets.net(n, 0, 1);
            int behind = n * n;
            check.isFalse("put(" + behind + ", 1, 1, 1)", x.put(behind, 1, 1, 1));
            check.isFalse("put(1, " + behind + ", 1, 1)", x.put(1, behind, 1, 1));
            for (int no : Nets.NEVER_NODES) {
                check.isFalse("put(" + no + ", 1, 1, 1)", x.put(no, 1, 1, 1));
                check.isFalse("put(1, " + no + ", 1, 1)", x.put(1, no, 1, 1));
                check.isFalse("put(" + no + ", " + no + ", 1, 1)", x.put(no, no, 1, 1));
            }
            check.node(x, 1, 0);
            check.isTrue("put(" + (behind - 1) + ", 1, 1, 1)", x.put(behind - 1, 1, 1, 1));
            check.isTrue("put(1, " + (behind - 1) + ", 1, 1)", x.put(1, behind - 1, 1, 1));
        }
    }

    private static void bothTheSame(Check check) {
        check.sentence("Promise 4", "both are the same");
        FlitTorus x = Nets.net(3, 0, 1);
        for (int node = 0; node < 9; node++) {
            check.isFalse("put(" + node + ", " + node + ", 1, 1)", x.put(node, node, 1, 1));
            check.node(x, node, 0);
        }
    }

    private static void length(Check check) {
        check.sentence("Promise 4", "length or 4 that wait forbid it.");
        FlitTorus x = Nets.net(3, 0, 1);
        int[] noLengths = {0, 9, -1, 16, Integer.MIN_VALUE, Integer.MAX_VALUE};
        for (int no : noLengths) {
            check.isFalse("put(0, 1, " + no + ", 1)", x.put(0, 1, no, 1));
            check.node(x, 0, 0);
        }
        check.isTrue("put(0, 1, 1, 1)", x.put(0, 1, 1, 1));
        check.isTrue("put(0, 1, 8, 1)", x.put(0, 1, 8, 1));
    }

    private static void fourWait(Check check) {
        check.sentence("Promise 4", "4 that wait forbid it.");
        FlitTorus x = Nets.net(8, 1, 1);
        for (int i = 0; i < 4; i++) {
            check.node(x, 63, i);
            check.isTrue("put(63, " + i + ", 8, 0)", x.put(63, i, 8, 0));
        }
        check.isFalse("a fifth", x.put(63, 0, 1, 0));
        check.node(x, 63, 4);
        x.cycle();
        check.node(x, 63, 3);
        check.isTrue("one waits no more", x.put(63, 0, 1, 0));
        check.isFalse("but one, not two", x.put(63, 0, 1, 0));
        check.node(x, 63, 4);
    }

    private static void fourWaitAtOneNode(Check check) {
        check.sentence("Promise 4", "4 that wait forbid it.");
        FlitTorus x = Nets.net(3, 0, 1);
        for (int node = 0; node < 9; node++) {
            for (int i = 0; i < 4; i++) {
                check.isTrue("put(" + node + ", " + (node + 1) % 9 + ", 1, 0)", x.put(node, (node + 1) % 9, 1, 0));
            }
            check.isFalse("a fifth at " + node, x.put(node, (node + 1) % 9, 1, 0));
        }
        // What is in a slot does not wait.
        x = Nets.net(3, 0, 1);
        Nets.fill(x, 0, 1);
        check.node(x, 0, 0, 4);
        for (int i = 0; i < 4; i++) {
            check.isTrue("put(0, 1, 1, 0)", x.put(0, 1, 1, 0));
        }
    }

    private static void refusedChangesNothing(Check check) {
        check.sentence("Promise 4", "False, refused");
        FlitTorus x = Nets.net(2, 0, 2);
        List<Integer> due = Nets.crowdedRun(x, 30);
        x = Nets.net(2, 0, 2);
        x.put(0, 0, 1, 1);
        x.put(4, 0, 1, 1);
        x.put(0, 4, 1, 1);
        x.put(0, 1, 0, 1);
        x.put(0, 1, 9, 1);
        check.isTrue("it goes on as if none had been", Nets.crowdedRun(x, 30).equals(due));
    }
}
