/** Terms: what a node does with the flits that it receives; its places, the row of those asked for, and notes. */
final class TermsReceivedTest {
    private static final String TAKES_A_PLACE = "without such it takes, if its TRY is 1 and the packet was not"
            + " ASKED for, the lowest empty place for its packet";
    private static final String JOINS = "When a place has all flits, and fewer than 4 packets are READY at the node,"
            + " the packet joins its READY ones, a note DONE is sent, and the place is empty.";
    private static final String KEPT = "Whenever a place is empty and the row of those asked for is not, the lowest"
            + " such place is kept for the first one of it (with the next TRY), which leaves the row, and a note GO"
            + " is sent.";

    public static void main(String[] args) {
        Check check = new Check("TermsReceivedTest");
        check.run(TermsReceivedTest::fourPlaces, TermsReceivedTest::countsForItsPlace,
                TermsReceivedTest::firstTryDoesNotCountForTheSecond, TermsReceivedTest::askedForTakesNoEmptyPlace,
                TermsReceivedTest::lowestEmptyPlace, TermsReceivedTest::lostAndAskedFor,
                TermsReceivedTest::rowHasAnEnd, TermsReceivedTest::fourthReadyOne,
                TermsReceivedTest::noRoomAmongTheReadyOnes, TermsReceivedTest::keptForTheFirstOfTheRow,
                TermsReceivedTest::emptyRow, TermsReceivedTest::onceInAll, TermsReceivedTest::whenANoteIsDue,
                TermsReceivedTest::whenANoteOfTakeIsDue);
        check.end();
    }

    /** Four packets of eight flits for node 12 of 25, of each of which some have been received, but not all. */
    private static FlitTorus fourAreJoined() {
        FlitTorus x = Nets.net(5, 0, 9);
        x.put(11, 12, 8, 11);
        x.put(13, 12, 8, 13);
        Nets.run(x, 2);
        x.put(7, 12, 8, 7);
        x.put(17, 12, 8, 17);
        Nets.run(x, 4);
        return x;
    }

    private static void fourPlaces(Check check) {
        check.sentence("Terms", "RECEIVED: a node has 4 PLACES, empty, kept for a packet, or with a packet that is"
                + " being joined.");
        FlitTorus x = fourAreJoined();
        check.node(x, 12, 0, 0, 0, 4, 0);
        check.equal("none was lost: count(4)", x.count(4), 0);
        x = Nets.net(3, 0, 9);
        for (int tag = 1; tag <= 9; tag++) {
            x.put(0, 1, 1, tag);
            x.cycle();
        }
        // The READY ones are four; the places fill one by one, and the ninth packet finds none.
        check.node(x, 1, 0, 0, 4, 4, 0);
        x.cycle();
        check.node(x, 1, 0, 0, 4, 4, 1);
        check.equal("count(4)", x.count(4), 1);
    }

    private static void countsForItsPlace(Check check) {
        check.sentence("Terms", "A flit counts for the place that is kept for its packet and TRY or has that packet"
                + " and TRY");
        FlitTorus x = Nets.net(3, 0, 9);
        x.put(0, 1, 8, 5);
        x.put(2, 1, 8, 6);
        x.cycle();
        for (int cycle = 1; cycle < 8; cycle++) {
            x.cycle();
            check.node(x, 1, 0, 0, 0, 2, 0);
        }
        x.cycle();
        check.node(x, 1, 0, 0, 2, 0, 0);
        check.equal("count(2)", x.count(2), 16);
        check.takes(x, 1, 5, 6);
    }

    /**
     * Three flits from node 0 to node 2 of 25, two ways off. Flit 0 is lost, and by the takes one of
     * the places is kept for the packet's second try, while flits 1 and 2 of the first are to come.
     */
    private static FlitTorus secondTryIsKept(int takes) {
        FlitTorus x = Nets.net(5, 0, 9);
        Nets.fill(x, 7, 2);
        x.put(0, 2, 3, 100);
        Nets.run(x, 3);
        for (int i = 0; i < takes; i++) {
            x.take(2);
        }
        return x;
    }

    private static void firstTryDoesNotCountForTheSecond(Check check) {
        check.sentence("Terms", "the place that is kept for its packet and TRY or has that packet and TRY");
        FlitTorus x = secondTryIsKept(5);
        check.node(x, 2, 0, 0, 3, 1, 0);
        Nets.run(x, 2);
        check.equal("all of the first try were lost: count(2)", x.count(2), 11);
        // In cycle 14 GO is told; flits enter in 14 to 16 and are received in 16 to 18.
        for (int cycle = 14; cycle < 18; cycle++) {
            x.cycle();
            check.node(x, 2, 0, 0, 3, 1, 0);
        }
        x.cycle();
        check.node(x, 2, 0, 0, 4, 0, 0);
        check.takes(x, 2, 6, 7, 8, 100);
        check.taken(x, 2, 0, 3, 2);
    }

    private static void askedForTakesNoEmptyPlace(Check check) {
        check.sentence("Terms", TAKES_A_PLACE);
        FlitTorus x = secondTryIsKept(4);
        check.node(x, 2, 0, 0, 4, 1, 0);
        for (int cycle = 12; cycle < 16; cycle++) {
            x.cycle();
            check.equal("three places stay empty: node(2, 3)", x.node(2, 3), 1);
        }
        check.equal("count(4)", x.count(4), 1);
    }

    private static void lowestEmptyPlace(Check check) {
        check.sentence("Terms", TAKES_A_PLACE);
        FlitTorus x = Nets.net(3, 0, 9);
        Nets.fill(x, 0, 1);
        check.takes(x, 1, 1);
        check.node(x, 1, 0, 0, 4, 3);
        Nets.send(x, 0, 1, 1, 9);
        x.cycle();
        check.node(x, 1, 0, 0, 4, 4);
        // Tag 9 is in place 0, and so joins the READY ones before 6, 7 and 8 in places 1 to 3.
        check.takes(x, 1, 2, 3, 4, 5, 9, 6, 7, 8);
    }

    private static void lostAndAskedFor(Check check) {
        check.sentence("Terms", "otherwise it is lost, and the packet is ASKED for, if it wasn't yet");
        FlitTorus x = Nets.net(3, 0, 9);
        Nets.fill(x, 2, 1);
        x.put(0, 1, 8, 100);
        for (int lost = 0; lost <= 8; lost++) {
            x.cycle();
            check.equal("count(2)", x.count(2), 8 + lost);
            check.equal("count(4)", x.count(4), Math.min(lost, 1));
            check.node(x, 1, 0, 0, 4, 4, Math.min(lost, 1));
        }
        x.cycle();
        check.equal("nothing of it is in the net: count(0)", x.count(0), 0);
        check.node(x, 0, 0, 1);
    }

    private static void rowHasAnEnd(Check check) {
        check.sentence("Terms", "it joins the node's row of such, at the end.");
        FlitTorus x = Nets.net(5, 0, 9);
        Nets.fill(x, 13, 12);
        int[] from = {17, 7, 11};
        for (int i = 0; i < 3; i++) {
            Nets.send(x, from[i], 12, 1, from[i]);
            x.cycle();
            check.equal("node(12, 4)", x.node(12, 4), i + 1);
        }
        for (int i = 0; i < 3; i++) {
            x.take(12);
            check.equal("node(12, 4)", x.node(12, 4), 2 - i);
            Nets.run(x, 2);
            for (int k = 0; k < 3; k++) {
                check.equal("take " + i + ": node(" + from[k] + ", 6)", x.node(from[k], 6), k <= i ? 2 : 1);
            }
        }
    }

    private static void fourthReadyOne(Check check) {
        check.sentence("Terms", JOINS);
        FlitTorus x = Nets.net(3, 0, 9);
        for (int tag = 1; tag <= 5; tag++) {
            check.equal("node(1, 2)", x.node(1, 2), Math.max(0, tag - 2));
            check.equal("node(1, 3)", x.node(1, 3), 0);
            x.put(0, 1, 1, tag);
            x.cycle();
        }
        check.node(x, 1, 0, 0, 4, 0);
        x.cycle();
        check.node(x, 1, 0, 0, 4, 1);
        Nets.run(x, 3);
        check.node(x, 1, 0, 0, 4, 1);
        check.equal("four were told DONE, the fifth was not: node(0, 1)", x.node(0, 1), 1);
    }

    private static void noRoomAmongTheReadyOnes(Check check) {
        check.sentence("Terms", "and fewer than 4 packets are READY at the node");
        FlitTorus x = Nets.net(3, 0, 9);
        Nets.fill(x, 0, 1);
        check.node(x, 1, 0, 0, 4, 4, 0);
        check.takes(x, 1, 1, 2);
        check.node(x, 1, 0, 0, 4, 2, 0);
        check.takes(x, 1, 3, 4);
        check.node(x, 1, 0, 0, 4, 0, 0);
        check.takes(x, 1, 5);
        check.node(x, 1, 0, 0, 3, 0, 0);
        // There is room for one now, and then for none.
        Nets.send(x, 0, 1, 2, 11);
        check.node(x, 1, 0, 0, 4, 0, 0);
        x.cycle();
        check.node(x, 1, 0, 0, 4, 1, 0);
        check.takes(x, 1, 6, 7, 8, 11, 12);
    }

    private static void keptForTheFirstOfTheRow(Check check) {
        check.sentence("Terms", KEPT);
        FlitTorus x = Nets.net(3, 0, 9);
        Nets.fill(x, 2, 1);
        Nets.send(x, 0, 1, 2, 11);
        x.cycle();
        check.node(x, 1, 0, 0, 4, 4, 2);
        check.takes(x, 1, 1);
        check.node(x, 1, 0, 0, 4, 4, 1);
        // Tag 11 comes again and is in place 0, so it is the lowest that is full; its place is kept for 12 then.
        Nets.run(x, 3);
        check.takes(x, 1, 2);
        check.node(x, 1, 0, 0, 4, 4, 0);
        check.takes(x, 1, 3, 4, 5, 11, 6, 7, 8);
        check.node(x, 1, 0, 0, 0, 1, 0);
        Nets.run(x, 3);
        check.node(x, 1, 0, 0, 1, 0, 0);
        check.takes(x, 1, 12);
        check.taken(x, 1, 0, 1, 2);
    }

    private static void emptyRow(Check check) {
        check.sentence("Terms", "Whenever a place is empty and the row of those asked for is not");
        FlitTorus x = Nets.net(3, 0, 9);
        Nets.fill(x, 2, 1);
        check.takes(x, 1, 1);
        check.node(x, 1, 0, 0, 4, 3, 0);
        // The first DONE is told two cycles behind the take, and no GO.
        Nets.run(x, 2);
        check.node(x, 2, 0, 3, 0, 0, 0, 0, 8, 0, 0);
    }

    private static void onceInAll(Check check) {
        check.sentence("Terms", "(A packet is asked for once in all.)");
        FlitTorus x = secondTryIsKept(1);
        check.node(x, 2, 0, 0, 4, 4, 0);
        // Flits 1 and 2 of the first try are lost while a place is kept for the second: that asks for nothing.
        for (int cycle = 12; cycle < 20; cycle++) {
            x.cycle();
            check.equal("node(2, 4)", x.node(2, 4), 0);
            check.equal("count(4)", x.count(4), 1);
        }
        check.equal("count(2)", x.count(2), 14);
        check.node(x, 2, 0, 0, 4, 4);
        check.takes(x, 2, 2, 3, 4, 5, 100);
        check.taken(x, 2, 0, 3, 2);
    }

    private static void whenANoteIsDue(Check check) {
        check.sentence("Terms", "A note is sent to the packet's source, and due as many cycles later as d says"
                + " (sent in cycle c");
        // To a node beside, to the farthest one, and to one beside whose link is closed.
        int[] goals = {1, 36, 8};
        int[] ways = {1, 8, 3};
        for (int i = 0; i < 3; i++) {
            FlitTorus x = Nets.net(8, 0, 9);
            x.link(0, 2, false);
            check.equal("distance(0, " + goals[i] + ")", x.distance(0, goals[i]), ways[i]);
            x.put(0, goals[i], 1, 0);
            Nets.run(x, ways[i]);
            check.equal("node(" + goals[i] + ", 2)", x.node(goals[i], 2), 0);
            // The cycle in which it is received, and those before the one in which the note is due.
            for (int cycle = 0; cycle < ways[i]; cycle++) {
                x.cycle();
                check.equal("node(" + goals[i] + ", 2)", x.node(goals[i], 2), 1);
                check.node(x, 0, 0, 1);
            }
            x.cycle();
            check.node(x, 0, 0, 0);
        }
    }

    private static void whenANoteOfTakeIsDue(Check check) {
        check.sentence("Terms", "or between cycle c and the one before it: in cycle c + d).");
        FlitTorus x = Nets.net(8, 0, 9);
        Nets.send(x, 0, 3, 8, 1);
        Nets.run(x, 10);
        check.node(x, 0, 0, 4);
        check.takes(x, 3, 1);
        check.equal("cycle c is to come: count(3)", x.count(3), 18);
        for (int cycle = 18; cycle < 21; cycle++) {
            x.cycle();
            check.node(x, 0, 0, 4);
        }
        x.cycle();
        check.node(x, 0, 0, 3);
    }
}
