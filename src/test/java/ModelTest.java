/**
 * Promises 1 to 12 over many runs of up to 512 mixed calls: FlitTorus answers as PlainTorus does.
 * The runs are drawn from a fixed row of numbers, so that they are the same every time.
 */
final class ModelTest {
    private static final int RUNS = 900;
    private static final int CALLS = 512;

    private long seed;
    private FlitTorus x;
    private PlainTorus plain;
    private int goal;
    private int hot;
    private int takes;
    private int asks;
    private int length;
    private int links;
    private int puts;

    private static long askedFor;
    private static long secondTries;
    private static long abandoned;
    private static long deflected;
    private static long goldenWins;
    private static long turns;
    private static long closed;
    private static long rowsAsked;
    private static long again;

    public static void main(String[] args) {
        Check check = new Check("ModelTest");
        for (int run = 0; run < RUNS; run++) {
            if (!new ModelTest().run(run, check)) {
                break;
            }
        }
        // A run proves nothing of what it never comes to.
        check.isTrue("packets were asked for", askedFor > 100);
        check.isTrue("packets came with their second try", secondTries > 100);
        check.isTrue("first tries were left before all flits had entered", abandoned > 20);
        check.isTrue("flits were deflected", deflected > 1000);
        check.isTrue("the golden flit went before older ones", goldenWins > 20);
        check.isTrue("the turn went on", turns > 100);
        check.isTrue("links were closed", closed > 100);
        check.isTrue("rows of those asked for were seen", rowsAsked > 20);
        check.isTrue("rows of those that go again were seen", again > 20);
        System.out.println("asked " + askedFor + ", second tries " + secondTries + ", left " + abandoned
                + ", deflected " + deflected + ", golden " + goldenWins + ", turns " + turns
                + ", closed " + closed + ", asked rows " + rowsAsked + ", again rows " + again);
        check.end();
    }

    private int draw(int bound) {
        seed = seed * 6364136223846793005L + 1442695040888963407L;
        return (int) ((seed >>> 33) % bound);
    }

    private boolean run(int run, Check check) {
        seed = run * 7919L + 17;
        x = new FlitTorus();
        plain = new PlainTorus();
        choose(run);
        for (int i = 0; i < CALLS; i++) {
            int turnBefore = plain.turn;
            String wrong = oneCall(i);
            turns += plain.turn == turnBefore ? 0 : 1;
            if (wrong != null) {
                check.isTrue("run " + run + ", call " + i + ": " + wrong, false);
                return false;
            }
        }
        askedFor += plain.askedFor;
        deflected += plain.deflected;
        goldenWins += plain.goldenWins;
        abandoned += plain.abandoned;
        check.isTrue("run " + run, true);
        return true;
    }

    private void choose(int run) {
        hot = draw(101);
        takes = draw(4) == 0 ? 0 : draw(60);
        asks = draw(3) == 0 ? 60 : draw(200);
        length = draw(3) == 0 ? 8 : 0;
        links = run % 2 == 0 ? draw(30) : 0;
        puts = 10 + draw(150);
    }

    private String oneCall(int i) {
        if (i == 0 && draw(5) > 0) {
            int n = 2 + draw(draw(2) == 0 ? 3 : 7);
            return resets(n, draw(3) == 0 ? 1 : 0, 1 + draw(draw(2) == 0 ? 4 : 40));
        }
        if (i < links) {
            return linkOne();
        }
        int all = 110 + puts + takes + asks;
        int pick = draw(all);
        if (pick < 100) {
            return same("cycle()", x.cycle(), plain.cycle());
        }
        if (pick < 100 + puts) {
            return putOne();
        }
        if (pick < 100 + puts + takes) {
            return takeOne();
        }
        if (pick < 108 + puts + takes) {
            return linkOne();
        }
        if (pick == 109 + puts + takes && draw(12) == 0) {
            return resets(draw(11), draw(3), draw(6));
        }
        return askOne();
    }

    private String resets(int n, int mode, int patience) {
        boolean got = x.reset(n, mode, patience);
        boolean due = plain.reset(n, mode, patience);
        goal = draw(plain.n * plain.n);
        return same("reset(" + n + ", " + mode + ", " + patience + ")", got ? 1 : 0, due ? 1 : 0);
    }

    /** Sometimes one that is none. */
    private int drawNode() {
        return draw(plain.n * plain.n + (draw(20) == 0 ? 2 : 0)) - (draw(40) == 0 ? 1 : 0);
    }

    private String linkOne() {
        int node = drawNode();
        int way = draw(draw(20) == 0 ? 6 : 4) - (draw(40) == 0 ? 1 : 0);
        boolean open = draw(4) == 0;
        boolean due = plain.link(node, way, open);
        closed += due && !open ? 1 : 0;
        return same("link(" + node + ", " + way + ", " + open + ")", x.link(node, way, open) ? 1 : 0, due ? 1 : 0);
    }

    private String putOne() {
        int node = draw(6) == 0 ? 0 : drawNode();
        int to = draw(100) < hot ? goal : drawNode();
        int flits = length > 0 && draw(20) > 0 ? length : draw(draw(15) == 0 ? 11 : 9);
        int tag = draw(1000) - 500;
        return same("put(" + node + ", " + to + ", " + flits + ", " + tag + ")",
                x.put(node, to, flits, tag) ? 1 : 0, plain.put(node, to, flits, tag) ? 1 : 0);
    }

    private String takeOne() {
        int node = draw(100) < hot ? goal : drawNode();
        String got;
        String due;
        try {
            got = "" + x.take(node);
        } catch (IllegalArgumentException | IllegalStateException e) {
            got = e.getClass().getName();
        }
        try {
            due = "" + plain.take(node);
            secondTries += plain.taken(node, 2) == 2 ? 1 : 0;
        } catch (IllegalArgumentException | IllegalStateException e) {
            due = e.getClass().getName();
        }
        return got.equals(due) ? null : "take(" + node + ") answered " + got + ", due is " + due;
    }

    private String askOne() {
        int what = draw(10) - (draw(30) == 0 ? 1 : 0);
        int node = draw(3) == 0 ? goal : drawNode();
        switch (draw(7)) {
            case 0:
                return same("taken(" + node + ", " + what + ")", x.taken(node, what), plain.taken(node, what));
            case 1:
                return same("count(" + what + ")", x.count(what), plain.count(what));
            case 2:
                what = draw(4) == 0 ? 8 : what;
                int dueOfNode = plain.node(node, what);
                rowsAsked += what == 4 && dueOfNode > 0 ? 1 : 0;
                again += what == 8 && dueOfNode > 0 ? 1 : 0;
                return same("node(" + node + ", " + what + ")", x.node(node, what), dueOfNode);
            case 3:
                return same("golden(" + what + ")", x.golden(what), plain.golden(what));
            case 4:
            case 5:
                int line = draw(5) - (draw(30) == 0 ? 1 : 0);
                return same("flit(" + node + ", " + line + ", " + what + ")", x.flit(node, line, what),
                        plain.flit(node, line, what));
            default:
                int b = drawNode();
                return same("distance(" + node + ", " + b + ")", x.distance(node, b), plain.distance(node, b));
        }
    }

    private static String same(String call, int got, int due) {
        return got == due ? null : call + " answered " + got + ", due is " + due;
    }
}
