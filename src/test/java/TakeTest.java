/** Promise 6: take. */
final class TakeTest {
    public static void main(String[] args) {
        Check check = new Check("TakeTest");
        noNode(check);
        noneReady(check);
        inOrder(check);
        lowestFullOneJoins(check);
        noteFromTake(check);
        check.end();
    }

    private static void noNode(Check check) {
        FlitTorus x = new FlitTorus();
        int[] noNodes = {-1, 4, 64, Integer.MIN_VALUE, Integer.MAX_VALUE};
        for (int no : noNodes) {
            check.takeThrows(x, no, IllegalArgumentException.class);
        }
        x.reset(8, 0, 1);
        check.takeThrows(x, 64, IllegalArgumentException.class);
        check.takeThrows(x, 63, IllegalStateException.class);
        x.reset(3, 0, 1);
        check.takeThrows(x, 9, IllegalArgumentException.class);
    }

    private static void noneReady(Check check) {
        FlitTorus x = new FlitTorus();
        check.takeThrows(x, 0, IllegalStateException.class);
        x.put(0, 1, 2, 7);
        x.cycle();
        x.cycle();
        check.equal("one flit of two has come: node(1, 3)", x.node(1, 3), 1);
        check.takeThrows(x, 1, IllegalStateException.class);
        x.cycle();
        check.takeThrows(x, 0, IllegalStateException.class);
        check.takes(x, 1, 7);
        check.takeThrows(x, 1, IllegalStateException.class);
        check.equal("the last one is still known: taken(1, 1)", x.taken(1, 1), 2);
    }

    private static void inOrder(Check check) {
        FlitTorus x = new FlitTorus();
        x.reset(4, 0, 3);
        x.put(1, 0, 4, 100);
        x.put(3, 0, 2, -300);
        x.put(4, 0, 1, 400);
        for (int i = 0; i < 8; i++) {
            x.cycle();
        }
        check.equal("node(0, 2)", x.node(0, 2), 3);
        // The one of node 4 was the third for its goal in cycle 1, and had to go round once.
        check.takes(x, 0, -300);
        check.takes(x, 0, 400);
        check.takes(x, 0, 100);
    }

    /** Four are ready and four wait in full places; each take lets the lowest of these join. */
    private static FlitTorus crowded() {
        FlitTorus x = new FlitTorus();
        x.reset(3, 0, 9);
        for (int tag = 1; tag <= 8; tag++) {
            x.put(0, 1, 1, tag);
            x.cycle();
        }
        x.cycle();
        x.cycle();
        return x;
    }

    private static void lowestFullOneJoins(Check check) {
        FlitTorus x = crowded();
        for (int tag = 1; tag <= 8; tag++) {
            check.equal("node(1, 2)", x.node(1, 2), Math.min(4, 9 - tag));
            check.equal("node(1, 3)", x.node(1, 3), Math.max(0, 5 - tag));
            check.takes(x, 1, tag);
        }
        check.takeThrows(x, 1, IllegalStateException.class);
    }

    /** A note that take sends is due d cycles behind the cycle to come. */
    private static void noteFromTake(Check check) {
        FlitTorus x = crowded();
        check.equal("node(0, 1)", x.node(0, 1), 4);
        check.takes(x, 1, 1);
        x.cycle();
        check.equal("not yet: node(0, 1)", x.node(0, 1), 4);
        x.cycle();
        check.equal("node(0, 1)", x.node(0, 1), 3);
    }
}
