/** Promise 9: node. (What 3, 4, 7 and 8 are also looked at in CycleTest.) */
final class NodeTest {
    public static void main(String[] args) {
        Check check = new Check("NodeTest");
        wayOfAPacket(check);
        rowAgain(check);
        noSuch(check);
        check.end();
    }

    private static void node(Check check, FlitTorus x, int node, int... due) {
        for (int what = 0; what < due.length; what++) {
            check.equal("node(" + node + ", " + what + ")", x.node(node, what), due[what]);
        }
    }

    private static void wayOfAPacket(Check check) {
        FlitTorus x = new FlitTorus();
        x.reset(4, 0, 9);
        x.put(0, 2, 2, 1);
        x.put(0, 2, 1, 2);
        node(check, x, 0, 2, 0, 0, 0, 0, 0, 0, 0, 0);
        x.cycle();
        node(check, x, 0, 1, 1, 0, 0, 0, 0, 1, 0, 0);
        node(check, x, 1, 0, 0, 0, 0, 0, 1, 0, 0, 0);
        x.cycle();
        node(check, x, 0, 1, 1, 0, 0, 0, 0, 2, 0, 0);
        node(check, x, 1, 0, 0, 0, 0, 0, 1, 1, 0, 0);
        node(check, x, 2, 0, 0, 0, 0, 0, 1, 0, 0, 0);
        x.cycle();
        node(check, x, 0, 0, 2, 0, 0, 0, 0, 3, 0, 0);
        node(check, x, 2, 0, 0, 0, 1, 0, 1, 0, 0, 0);
        x.cycle();
        node(check, x, 1, 0, 0, 0, 0, 0, 0, 3, 0, 0);
        node(check, x, 2, 0, 0, 1, 0, 0, 1, 0, 0, 0);
        x.cycle();
        // What leaves at its goal has not gone out of it.
        node(check, x, 2, 0, 0, 2, 0, 0, 0, 0, 0, 0);
        node(check, x, 0, 0, 2, 0, 0, 0, 0, 3, 0, 0);
        x.cycle();
        node(check, x, 0, 0, 1, 0, 0, 0, 0, 3, 0, 0);
        x.cycle();
        node(check, x, 0, 0, 0, 0, 0, 0, 0, 3, 0, 0);
        x.take(2);
        node(check, x, 2, 0, 0, 1, 0, 0, 0, 0, 0, 0);
    }

    /** Node 0 is sending a long packet when GO comes for another one: that stays in the row meanwhile. */
    private static void rowAgain(Check check) {
        FlitTorus x = new FlitTorus();
        x.reset(3, 0, 9);
        for (int tag = 1; tag <= 9; tag++) {
            x.put(0, 1, 1, tag);
            x.cycle();
        }
        x.put(0, 1, 8, 10);
        x.cycle();
        check.equal("node(1, 4)", x.node(1, 4), 1);
        x.take(1);
        x.cycle();
        // Of the long one, which came to four full places, flit 0 was lost as well.
        node(check, x, 1, 0, 0, 4, 4, 1, 1, 0, 0, 0);
        for (int i = 0; i < 6; i++) {
            x.cycle();
            check.equal("cycle " + i + ": node(0, 8)", x.node(0, 8), 1);
        }
        x.cycle();
        check.equal("all has entered: node(0, 8)", x.node(0, 8), 0);
        check.equal("flit(1, 0, 5)", x.flit(1, 0, 5), 2);
    }

    private static void noSuch(Check check) {
        FlitTorus x = new FlitTorus();
        x.reset(3, 0, 1);
        int[] noNodes = {-1, 9, 64, Integer.MIN_VALUE, Integer.MAX_VALUE};
        for (int no : noNodes) {
            for (int what = 0; what <= 8; what++) {
                check.equal("node(" + no + ", " + what + ")", x.node(no, what), FlitTorus.NONE);
            }
        }
        int[] noWhats = {-1, 9, Integer.MIN_VALUE, Integer.MAX_VALUE};
        for (int no : noWhats) {
            check.equal("node(0, " + no + ")", x.node(0, no), FlitTorus.NONE);
        }
    }
}
