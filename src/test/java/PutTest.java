/** Promise 4: put. */
final class PutTest {
    public static void main(String[] args) {
        Check check = new Check("PutTest");
        refused(check);
        fourWait(check);
        inOrder(check);
        check.end();
    }

    private static void refused(Check check) {
        FlitTorus x = new FlitTorus();
        x.reset(3, 0, 1);
        int[] noNodes = {-1, 9, 64, Integer.MIN_VALUE, Integer.MAX_VALUE};
        for (int no : noNodes) {
            check.isFalse("put(" + no + ", 1, 1, 1)", x.put(no, 1, 1, 1));
            check.isFalse("put(1, " + no + ", 1, 1)", x.put(1, no, 1, 1));
            check.isFalse("put(" + no + ", " + no + ", 1, 1)", x.put(no, no, 1, 1));
        }
        for (int node = 0; node < 9; node++) {
            check.isFalse("put(" + node + ", " + node + ", 1, 1)", x.put(node, node, 1, 1));
        }
        int[] noLengths = {0, 9, -1, Integer.MIN_VALUE, Integer.MAX_VALUE};
        for (int no : noLengths) {
            check.isFalse("put(0, 1, " + no + ", 1)", x.put(0, 1, no, 1));
        }
        for (int node = 0; node < 9; node++) {
            check.equal("node(" + node + ", 0)", x.node(node, 0), 0);
        }
        check.equal("cycle()", x.cycle(), 0);
    }

    private static void fourWait(Check check) {
        FlitTorus x = new FlitTorus();
        x.reset(8, 1, 1);
        for (int i = 0; i < 4; i++) {
            check.equal("node(63, 0)", x.node(63, 0), i);
            check.isTrue("put(63, " + i + ", 8, 0)", x.put(63, i, 8, 0));
        }
        check.isFalse("a fifth", x.put(63, 0, 1, 0));
        check.equal("node(63, 0)", x.node(63, 0), 4);
        check.isTrue("at another node", x.put(62, 63, 1, 0));
        check.equal("node(62, 0)", x.node(62, 0), 1);
        x.cycle();
        check.equal("one waits no more: node(63, 0)", x.node(63, 0), 3);
        check.isTrue("so one more may", x.put(63, 0, 1, 0));
        check.isFalse("but not two", x.put(63, 0, 1, 0));
    }

    private static void inOrder(Check check) {
        FlitTorus x = new FlitTorus();
        x.reset(3, 0, 1);
        int[] tags = {Integer.MIN_VALUE, -1, 0, Integer.MAX_VALUE};
        for (int tag : tags) {
            check.isTrue("put(4, 5, 2, " + tag + ")", x.put(4, 5, 2, tag));
        }
        for (int i = 0; i < 12; i++) {
            x.cycle();
        }
        for (int tag : tags) {
            check.takes(x, 5, tag);
            check.equal("taken(5, 0)", x.taken(5, 0), 4);
            check.equal("taken(5, 1)", x.taken(5, 1), 2);
        }
    }
}
