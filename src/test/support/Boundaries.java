import java.util.ArrayList;
import java.util.List;

/**
 * What the tests of boundary cases share: each of them names a promise, or a part of the Terms, and
 * the document's sentence, and asks for answers that were worked out from the document.
 */
abstract class Boundaries {
    static final int NONE = SignalNetwork.NONE;
    /** Neither an exchange, nor a link, a side, a flow, a circuit or NONE. */
    static final int[] ODD = {-2, 10, 11, 64, 100, Integer.MIN_VALUE, Integer.MAX_VALUE};

    /** The states of a link's end. */
    static final int OUT = 0;
    static final int SEEKING = 1;
    static final int ALIGNED = 2;
    static final int PROVING = 3;
    static final int READY = 4;
    static final int IN_SERVICE = 5;

    /** What end() is asked for. */
    static final int STATE = 0;
    static final int TIMER = 1;
    static final int SENT = 2;
    static final int TAKEN = 3;
    static final int FORWARD = 4;
    static final int BACKWARD = 5;
    static final int UNACKNOWLEDGED = 6;
    static final int WAITING = 7;
    static final int CREDIT = 8;
    static final int ROUND = 9;
    static final int URGENT = 10;
    static final int PATIENCE = 11;
    static final int REPEATS = 12;
    static final int DAMAGED = 13;
    static final int LIFE = 14;
    static final int PEER = 15;

    /** What counted() is asked for. */
    static final int LOST = 1;
    static final int DONE = 2;
    static final int KIND = 3;

    static String latestCall = "";
    private static String about = "";
    private static int checks;
    private static int sentences;
    private static int wrong;

    /** Begins the test of a sentence; the one before must have asked for something. */
    static void sentence(String where, String words) {
        endSentence();
        about = where + ", \"" + words + "\"";
        sentences++;
    }

    private static void endSentence() {
        if (sentences > 0 && checks == 0) {
            fault("nothing is asked for");
        }
        checks = 0;
    }

    static void fault(String text) {
        wrong++;
        System.out.println(about + ": " + text);
    }

    static void due(int got, int want) {
        checks++;
        if (got != want) {
            fault(latestCall + " answered " + got + ", due is " + want);
        }
    }

    static void due(boolean got, boolean want) {
        due(got ? 1 : 0, want ? 1 : 0);
    }

    static void finish(String name) {
        endSentence();
        System.out.println(name + ": " + sentences + " sentences, " + wrong + " wrong answers");
        sentences = 0;
        if (wrong != 0) {
            System.exit(1);
        }
    }

    /** Of two that were called alike, but for calls that are to do nothing: nothing tells them apart. */
    static void dueAlike(Net tried, Net plain) {
        for (int ticks : new int[] {0, 1, 45}) {
            List<String> got = new ArrayList<>(tried.everything(ticks));
            List<String> want = plain.everything(ticks);
            checks++;
            for (int i = 0; i < want.size() && i < got.size(); i++) {
                if (!got.get(i).equals(want.get(i))) {
                    fault("behind " + ticks + " ticks " + got.get(i) + ", due is " + want.get(i));
                    return;
                }
            }
        }
    }

    // ---------------------------------------------------------------- networks to begin with

    /** Exchanges 0 and 1 with that many links, made and told, not active. */
    static Net still(int links) {
        Net n = new Net();
        n.route(0, 1, 1, NONE);
        n.route(1, 0, 0, NONE);
        for (int i = 0; i < links; i++) {
            n.link(0, 1);
        }
        return n;
    }

    /**
     * The same, active and in service, at tick 60. The ends of link 0 were READY in tick 5: the 16th
     * units since then came in ticks 21, 37 and 53, the next comes in 69. Of the others the
     * exchanges told each other CLOSED of 2 to 5: messages 0 to 3 of link 0.
     */
    static Net pair(int links) {
        Net n = still(links);
        for (int i = 0; i < links; i++) {
            n.activate(i, true);
        }
        n.tick(60);
        return n;
    }

    /**
     * Link 1 beside link 0 of pair(1), active since tick 60: not urgent, PROVING of 8 from tick 63
     * on, READY in 70, UP at both exchanges in 71.
     */
    static Net second() {
        Net n = pair(1);
        n.link(0, 1);
        n.activate(1, true);
        return n;
    }

    /** Exchanges 0, 1, .. in a row, link i from i to i + 1, all in service at tick 60. */
    static Net row(int exchanges) {
        Net n = new Net();
        for (int i = 0; i + 1 < exchanges; i++) {
            n.link(i, i + 1);
        }
        for (int i = 0; i < exchanges; i++) {
            for (int d = 0; d < exchanges; d++) {
                if (d != i) {
                    n.route(i, d, d > i ? i + 1 : i - 1, NONE);
                }
            }
        }
        for (int i = 0; i + 1 < exchanges; i++) {
            n.activate(i, true);
        }
        n.tick(60);
        return n;
    }

    /** Links 0 (0 to 1), 1 (1 to 2), 2 (0 to 2), each way also by the third exchange; at tick 60. */
    static Net triangle() {
        Net n = new Net();
        n.link(0, 1);
        n.link(1, 2);
        n.link(0, 2);
        for (int a = 0; a < 3; a++) {
            for (int b = 0; b < 3; b++) {
                if (a != b) {
                    n.route(a, b, b, 3 - a - b);
                }
            }
        }
        for (int l = 0; l < 3; l++) {
            n.activate(l, true);
        }
        n.tick(60);
        return n;
    }

    /** Lets the ticks go by up to that one. */
    static void tickTo(Net n, int tick) {
        n.tick(tick - n.tick(0));
    }

    /** Gives so many messages to a flow: BLOCK and UNBLOCK in turn of a circuit that isn't blocked. */
    static void give(Net n, int x, int neighbour, int s, int messages) {
        for (int i = 0; i < messages; i++) {
            n.block(x, neighbour, s, i % 2 == 0);
        }
    }
}
