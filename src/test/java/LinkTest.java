/** Promise 3: link. */
final class LinkTest {
    public static void main(String[] args) {
        Check check = new Check("LinkTest");
        bothEnds(check);
        noSuch(check);
        modeOne(check);
        whileBusy(check);
        twoWays(check);
        oneNet(check);
        check.end();
    }

    private static FlitTorus net(int n) {
        FlitTorus x = new FlitTorus();
        x.reset(n, 0, 4);
        return x;
    }

    private static void bothEnds(Check check) {
        int[] back = {1, 0, 3, 2};
        int[] beside = {6, 8, 12, 2};
        for (int way = 0; way < 4; way++) {
            FlitTorus x = net(5);
            int other = new int[] {8, 6, 12, 2}[way];
            check.isFalse("it is open", x.link(7, way, true));
            check.isTrue("close way " + way + " of 7", x.link(7, way, false));
            check.isFalse("it is closed", x.link(7, way, false));
            check.isFalse("it is closed from the other end", x.link(other, back[way], false));
            check.equal("distance(7, " + other + ")", x.distance(7, other), 3);
            check.isTrue("open it from the other end", x.link(other, back[way], true));
            check.isFalse("it is open", x.link(7, way, true));
            check.equal("distance(7, " + other + ")", x.distance(7, other), 1);
            check.equal("distance(7, " + beside[way] + ")", x.distance(7, beside[way]), 1);
        }
        // Two links go between the same nodes here; each is one of its own.
        FlitTorus x = net(2);
        check.isTrue("link(0, 0, false)", x.link(0, 0, false));
        check.isFalse("its other end: link(1, 1, false)", x.link(1, 1, false));
        check.isTrue("the other one: link(1, 0, false)", x.link(1, 0, false));
        check.isFalse("its other end: link(0, 1, false)", x.link(0, 1, false));
        check.equal("distance(0, 1)", x.distance(0, 1), 3);
    }

    private static void noSuch(Check check) {
        FlitTorus x = net(3);
        int[] noNodes = {-1, 9, 64, Integer.MIN_VALUE, Integer.MAX_VALUE};
        for (int no : noNodes) {
            check.isFalse("link(" + no + ", 0, false)", x.link(no, 0, false));
            check.isFalse("link(" + no + ", 0, true)", x.link(no, 0, true));
        }
        int[] noWays = {-1, 4, Integer.MIN_VALUE, Integer.MAX_VALUE};
        for (int no : noWays) {
            check.isFalse("link(0, " + no + ", false)", x.link(0, no, false));
            check.isFalse("link(8, " + no + ", true)", x.link(8, no, true));
        }
    }

    private static void modeOne(Check check) {
        FlitTorus x = new FlitTorus();
        x.reset(3, 1, 4);
        check.isFalse("mode 1: link(0, 0, false)", x.link(0, 0, false));
        check.isFalse("mode 1: link(0, 0, true)", x.link(0, 0, true));
        check.equal("distance(0, 1)", x.distance(0, 1), 1);
    }

    private static void whileBusy(Check check) {
        FlitTorus x = net(3);
        x.link(8, 0, false);
        x.put(0, 1, 2, 5);
        check.isFalse("while one waits", x.link(4, 0, false));
        check.isFalse("opening, while one waits", x.link(8, 0, true));
        x.cycle();
        check.isFalse("while it is under way", x.link(4, 0, false));
        x.cycle();
        check.isFalse("while it is in a slot", x.link(4, 0, false));
        x.cycle();
        check.equal("all has come", x.node(1, 2), 1);
        check.isFalse("while a note is on its way", x.link(4, 0, false));
        x.cycle();
        check.equal("the slot is free", x.node(0, 1), 0);
        check.isTrue("a packet that is only ready forbids nothing", x.link(4, 0, false));
        check.isTrue("nor opening", x.link(8, 0, true));
        check.takes(x, 1, 5);
    }

    private static void twoWays(Check check) {
        FlitTorus x = net(4);
        check.isTrue("link(5, 0, false)", x.link(5, 0, false));
        check.isTrue("link(5, 1, false)", x.link(5, 1, false));
        check.isFalse("5 would have one: link(5, 2, false)", x.link(5, 2, false));
        check.isFalse("from the other end: link(9, 3, false)", x.link(9, 3, false));
        check.isFalse("link(5, 3, false)", x.link(5, 3, false));
        check.equal("distance(5, 9)", x.distance(5, 9), 1);
        check.isTrue("link(9, 2, false)", x.link(9, 2, false));
        check.isTrue("one is open again: link(6, 1, true)", x.link(6, 1, true));
        check.isTrue("then link(5, 2, false)", x.link(5, 2, false));
        check.isFalse("9 would have one: link(9, 0, false)", x.link(9, 0, false));
    }

    private static void oneNet(Check check) {
        FlitTorus x = net(2);
        check.isTrue("link(0, 2, false)", x.link(0, 2, false));
        check.isTrue("link(0, 3, false)", x.link(0, 3, false));
        check.isTrue("link(1, 2, false)", x.link(1, 2, false));
        check.equal("distance(0, 2)", x.distance(0, 2), 3);
        // Both ends would keep two ways, but 0 and 1 would have none to 2 and 3.
        check.isFalse("it would fall apart: link(1, 3, false)", x.link(1, 3, false));
        check.isFalse("it would fall apart: link(3, 2, false)", x.link(3, 2, false));
        check.equal("all is as before: distance(0, 2)", x.distance(0, 2), 3);
        check.isFalse("it is still open: link(1, 3, true)", x.link(1, 3, true));
        check.isTrue("link(2, 2, true)", x.link(2, 2, true));
        check.isTrue("then link(1, 3, false)", x.link(1, 3, false));
        check.equal("distance(1, 3)", x.distance(1, 3), 3);
    }
}
