import java.io.IOException;
import java.nio.file.Files;
import java.nio.file.Path;
import java.util.ArrayList;
import java.util.List;

/**
 * Counts and prints the answers that are not as due. A test says by sentence() which words of the
 * document the answers behind it are held against; the words must stand in the document so.
 */
final class Check {
    private final String test;
    private final List<String[]> sentences = new ArrayList<>();
    private String held = "";
    private int asked;
    private int askedBefore;
    private int wrong;

    Check(String test) {
        this.test = test;
    }

    /** One test: it asks for answers, and says before which words of the document they are held against. */
    interface Test {
        void run(Check check);
    }

    /** Each for itself: one that throws is a fault, and those behind it are run all the same. */
    void run(Test... tests) {
        for (Test one : tests) {
            try {
                one.run(this);
            } catch (RuntimeException e) {
                fault("threw " + e + " at " + e.getStackTrace()[0]);
            }
            endSentence();
        }
    }

    /** From here on the answers are held against these words of a part of the document. */
    void sentence(String part, String words) {
        endSentence();
        sentences.add(new String[] {part, words});
        held = part + ", \"" + words + "\"";
        askedBefore = asked;
    }

    void equal(String call, int got, int due) {
        asked++;
        if (got != due) {
            fault(call + " answered " + got + ", due is " + due);
        }
    }

    void equal(String call, String got, String due) {
        asked++;
        if (!got.equals(due)) {
            fault(call + " answered " + got + ", due is " + due);
        }
    }

    void isTrue(String call, boolean got) {
        equal(call, got ? 1 : 0, 1);
    }

    void isFalse(String call, boolean got) {
        equal(call, got ? 1 : 0, 0);
    }

    void takes(FlitTorus x, int node, int... dueTags) {
        for (int tag : dueTags) {
            try {
                equal("take(" + node + ")", x.take(node), tag);
            } catch (RuntimeException e) {
                isTrue("take(" + node + ") threw " + e, false);
            }
        }
    }

    void takeThrows(FlitTorus x, int node, Class<? extends RuntimeException> due) {
        Class<?> got = null;
        try {
            x.take(node);
        } catch (RuntimeException e) {
            got = e.getClass();
        }
        isTrue("take(" + node + ") threw " + got + ", due is " + due, got == due);
    }

    void cycles(FlitTorus x, int... dueMoves) {
        for (int i = 0; i < dueMoves.length; i++) {
            equal("cycle() " + (i + 1) + " of " + dueMoves.length, x.cycle(), dueMoves[i]);
        }
    }

    /** node(node, 0), node(node, 1) and so on. */
    void node(FlitTorus x, int node, int... due) {
        for (int what = 0; what < due.length; what++) {
            equal("node(" + node + ", " + what + ")", x.node(node, what), due[what]);
        }
    }

    /** flit(node, line, 0), flit(node, line, 1) and so on. */
    void flit(FlitTorus x, int node, int line, int... due) {
        for (int what = 0; what < due.length; what++) {
            equal("flit(" + node + ", " + line + ", " + what + ")", x.flit(node, line, what), due[what]);
        }
    }

    void noFlit(FlitTorus x, int node, int line) {
        flit(x, node, line, FlitTorus.NONE);
    }

    /** taken(node, 0), taken(node, 1) and so on. */
    void taken(FlitTorus x, int node, int... due) {
        for (int what = 0; what < due.length; what++) {
            equal("taken(" + node + ", " + what + ")", x.taken(node, what), due[what]);
        }
    }

    /** count(0), count(1) and so on. */
    void counts(FlitTorus x, int... due) {
        for (int what = 0; what < due.length; what++) {
            equal("count(" + what + ")", x.count(what), due[what]);
        }
    }

    void end() {
        endSentence();
        lookUpSentences();
        System.out.println(test + ": " + sentences.size() + " sentences, " + asked + " answers, " + wrong
                + " not as due");
        if (wrong != 0) {
            System.exit(1);
        }
    }

    private void fault(String text) {
        wrong++;
        System.out.println(test + ": " + text + (held.isEmpty() ? "" : " [" + held + "]"));
    }

    private void endSentence() {
        if (!held.isEmpty() && asked == askedBefore) {
            fault("nothing was asked");
        }
        held = "";
        askedBefore = asked;
    }

    /** Only where .ci/run has told the document's path, so that a test can be run alone too. */
    private void lookUpSentences() {
        String path = System.getProperty("document");
        if (path == null) {
            return;
        }
        try {
            String document = Files.readString(Path.of(path));
            for (String[] one : sentences) {
                if (!part(document, one[0]).contains(one[1])) {
                    fault("the document does not say \"" + one[1] + "\" under " + one[0]);
                }
            }
        } catch (IOException e) {
            fault("the document can't be read: " + e);
        }
    }

    private static String part(String document, String heading) {
        String[] parts = document.split("\n## ");
        for (String one : parts) {
            if (one.equals(heading) || one.startsWith(heading + "\n") || one.startsWith(heading + ":")) {
                return one;
            }
        }
        return "";
    }
}
