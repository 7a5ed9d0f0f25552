/** Promise 7: taken. */
final class TakenTest {
    private static final int NONE = FlitTorus.NONE;

    public static void main(String[] args) {
        Check check = new Check("TakenTest");
        FlitTorus x = new FlitTorus();
        x.reset(3, 1, 5);
        x.put(8, 4, 5, 1);
        x.put(3, 4, 1, 2);
        x.put(0, 5, 2, 3);
        for (int i = 0; i < 10; i++) {
            x.cycle();
        }
        for (int what = -1; what <= 3; what++) {
            check.equal("none was taken: taken(4, " + what + ")", x.taken(4, what), NONE);
        }
        check.takes(x, 4, 2);
        told(check, x, 4, 3, 1, 1);
        check.equal("nor at another: taken(5, 0)", x.taken(5, 0), NONE);
        check.takes(x, 4, 1);
        told(check, x, 4, 8, 5, 1);
        check.takes(x, 5, 3);
        told(check, x, 5, 0, 2, 1);
        told(check, x, 4, 8, 5, 1);
        check.takeThrows(x, 4, IllegalStateException.class);
        told(check, x, 4, 8, 5, 1);
        int[] noNodes = {-1, 9, 64, Integer.MIN_VALUE, Integer.MAX_VALUE};
        for (int no : noNodes) {
            check.equal("taken(" + no + ", 0)", x.taken(no, 0), NONE);
        }
        int[] noWhats = {-1, 3, Integer.MIN_VALUE, Integer.MAX_VALUE};
        for (int no : noWhats) {
            check.equal("taken(4, " + no + ")", x.taken(4, no), NONE);
        }
        laterPackets(check, x);
        x.reset(3, 1, 5);
        check.equal("behind reset: taken(4, 0)", x.taken(4, 0), NONE);
        check.end();
    }

    private static void told(Check check, FlitTorus x, int node, int source, int length, int attempt) {
        check.equal("taken(" + node + ", 0)", x.taken(node, 0), source);
        check.equal("taken(" + node + ", 1)", x.taken(node, 1), length);
        check.equal("taken(" + node + ", 2)", x.taken(node, 2), attempt);
    }

    /** What was taken stays known when its slot and place have other packets. */
    private static void laterPackets(Check check, FlitTorus x) {
        for (int i = 0; i < 12; i++) {
            x.put(7, 4, 3, 70 + i);
            x.put(8, 5, 4, 80 + i);
            x.cycle();
        }
        told(check, x, 4, 8, 5, 1);
        check.takes(x, 4, 70);
        told(check, x, 4, 7, 3, 1);
    }
}
