import java.util.ArrayList;
import java.util.List;

/** Nets in states that several tests begin with. */
final class Nets {
    /** What is no node of any net; the node behind a net's last one is asked for by each test. */
    static final int[] NEVER_NODES = {-1, -2, 64, 65, Integer.MIN_VALUE, Integer.MAX_VALUE};

    private Nets() {
    }

    static FlitTorus net(int n, int mode, int patience) {
        FlitTorus x = new FlitTorus();
        x.reset(n, mode, patience);
        return x;
    }

    static void run(FlitTorus x, int cycles) {
        for (int i = 0; i < cycles; i++) {
            x.cycle();
        }
    }

    /** Packets of one flit, one a cycle; their tags count on from the first one's. */
    static void send(FlitTorus x, int from, int goal, int packets, int firstTag) {
        for (int i = 0; i < packets; i++) {
            x.put(from, goal, 1, firstTag + i);
            x.cycle();
        }
    }

    /**
     * Nine cycles, with a node beside the goal: tags 1 to 4 are READY there then, 5 to 8 have all
     * flits in places 0 to 3, and keep slots 0 to 3 of their source.
     */
    static void fill(FlitTorus x, int from, int goal) {
        send(x, from, goal, 8, 1);
        x.cycle();
    }

    /** In a net of 25 the first of these come to node 12 after one cycle, on lines 0, 1, 2 and 3, and want to go on. */
    static FlitTorus cross(FlitTorus x, int flits) {
        int[] from = {11, 13, 7, 17};
        int[] to = {13, 11, 17, 7};
        for (int i = 0; i < flits; i++) {
            x.put(from[i], to[i], 1, 0);
        }
        x.cycle();
        return x;
    }

    /**
     * Node 6 of 25 with two open ways, a flit to let enter, and from cycle 1 to 8 two flits that cross there,
     * if none is held back. The cycle to come is 1.
     */
    static FlitTorus crossing(int patience) {
        FlitTorus x = net(5, 0, patience);
        x.link(6, 2, false);
        x.link(6, 3, false);
        x.put(5, 7, 8, 57);
        x.put(7, 5, 8, 75);
        x.cycle();
        x.put(6, 7, 1, 67);
        return x;
    }

    /**
     * What a net of at least four nodes answers while nodes 1 to 3 send all that they can to node 0.
     * Two nets in the same state answer the same; other modes, patiences or links answer otherwise.
     */
    static List<Integer> crowdedRun(FlitTorus x, int cycles) {
        List<Integer> answers = new ArrayList<>();
        for (int i = 0; i < cycles; i++) {
            answers.add(x.put(1 + i % 3, 0, 3, i) ? 1 : 0);
            answers.add(x.cycle());
            for (int what = 0; what <= 5; what++) {
                answers.add(x.count(what));
            }
            if (i % 16 == 15) {
                answers.add(x.node(0, 2) > 0 ? x.take(0) : FlitTorus.NONE);
                answers.add(x.golden(2));
            }
        }
        return answers;
    }
}
