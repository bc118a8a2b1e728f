/**
 * Runs of calls whose due answers were worked out by hand from the document, promise by promise:
 * ordinary inputs, the edges that the document names, and wrong inputs.
 */
public final class PromiseTest {
    private static final int NONE = SignalNetwork.NONE;
    private static final int[] ODD = {NONE, -2, 6, 7, 10, 54, 99, 1000, Integer.MIN_VALUE, Integer.MAX_VALUE};

    private static int wrong = 0;
    private static String about = "";

    private static void due(String call, int got, int want) {
        if (got != want) {
            wrong++;
            System.out.println(about + ": " + call + " answered " + got + ", due is " + want);
        }
    }

    private static void due(String call, boolean got, boolean want) {
        due(call, got ? 1 : 0, want ? 1 : 0);
    }

    public static void main(String[] args) {
        newObject();
        linkNumbers();
        linkLimits();
        routeWrong();
        routeIsLookedAt();
        routeOfNoNeighbour();
        activateStarts();
        activateFails();
        activateWaitsForTimer();
        cutFailsByCredit();
        cutWhileSeeking();
        damageCounts();
        damageWhileProving();
        damageFifthRound();
        damageNotUrgent();
        damageCredit();
        damageIsRepeated();
        tickCounts();
        timersBeginBehind();
        timersAnswered();
        dialHere();
        dialWrong();
        dialFar();
        dialTooLong();
        dialBusyCircuits();
        dialTimesOut();
        dialIsReleasedAndReset();
        answerTalks();
        hangLetsGo();
        blockCircuits();
        endAtFirst();
        endLife();
        endPatience();
        endWindow();
        octetsOfState();
        octetsOfMessage();
        bitsOnLine();
        flowChangesOver();
        flowChangesBack();
        flowKeepsSixtyFour();
        nextTold();
        circuitGlare();
        circuitStaleCount();
        subscriberStates();
        countedLost();
        countedHops();
        changeoverOut();
        changeoverByOthers();
        changeoverBecauseOfOver();
        changebackAgain();
        readyTooLong();
        completeWhenIdle();
        completeOfAnotherCount();
        urgentAtOneEnd();
        readyAnew();
        overIsLostWhenFull();
        wrongArguments();
        System.out.println(wrong == 0 ? "promises: all answers are as due" : wrong + " answers are not as due");
        if (wrong != 0) {
            System.exit(1);
        }
    }

    // ---------------------------------------------------------------- networks to begin with

    /** Exchanges 0 and 1 with so many links, all in service (0 without delay, the others by tick 30). */
    private static SignalNetwork pair(int links) {
        SignalNetwork x = new SignalNetwork();
        x.route(0, 1, 1, NONE);
        x.route(1, 0, 0, NONE);
        for (int i = 0; i < links; i++) {
            x.link(0, 1);
            x.activate(i, true);
        }
        x.tick(60);
        return x;
    }

    /** Exchanges 0, 1, .. n - 1 in a row, link i from i to i + 1. */
    private static SignalNetwork row(int n) {
        SignalNetwork x = new SignalNetwork();
        for (int i = 0; i + 1 < n; i++) {
            x.link(i, i + 1);
        }
        for (int i = 0; i < n; i++) {
            for (int d = 0; d < n; d++) {
                if (d != i) {
                    x.route(i, d, d > i ? i + 1 : i - 1, NONE);
                }
            }
        }
        for (int i = 0; i + 1 < n; i++) {
            x.activate(i, true);
        }
        x.tick(60);
        return x;
    }

    /** Exchanges 0, 1, 2: links 0 (0 to 1), 1 (1 to 2), 2 (0 to 2), each way also by the third. */
    private static SignalNetwork triangle() {
        SignalNetwork x = new SignalNetwork();
        x.link(0, 1);
        x.link(1, 2);
        x.link(0, 2);
        for (int a = 0; a < 3; a++) {
            for (int b = 0; b < 3; b++) {
                if (a != b) {
                    x.route(a, b, b, 3 - a - b);
                }
            }
        }
        for (int l = 0; l < 3; l++) {
            x.activate(l, true);
        }
        x.tick(60);
        return x;
    }

    // ---------------------------------------------------------------- 1 a new object

    private static void newObject() {
        about = "1 new object";
        SignalNetwork x = new SignalNetwork();
        for (int what = 0; what < 4; what++) {
            due("counted(" + what + ")", x.counted(what), 0);
        }
        for (int n = 0; n < 60; n++) {
            boolean isOne = n % 10 < 4;
            due("subscriber(" + n + ", 0)", x.subscriber(n, 0), isOne ? 0 : NONE);
            due("subscriber(" + n + ", 1)", x.subscriber(n, 1), NONE);
            due("subscriber(" + n + ", 2)", x.subscriber(n, 2), NONE);
        }
        for (int a = 0; a < 6; a++) {
            for (int b = 0; b < 6; b++) {
                due("circuit", x.circuit(a, b, 0, 0), NONE);
                due("flow", x.flow(a, b, 0, 1), NONE);
                due("next", x.next(a, b, 0), NONE);
                due("next", x.next(a, b, 10 + b), NONE);
            }
        }
        due("end(0, 0, 0)", x.end(0, 0, 0), NONE);
        due("cut(0, true)", x.cut(0, true), false);
        due("tick(0)", x.tick(0), 0);
        due("tick(3)", x.tick(3), 3);
        due("NONE", SignalNetwork.NONE, -1);
    }

    // ---------------------------------------------------------------- 2 link

    private static void linkNumbers() {
        about = "2 link";
        SignalNetwork x = new SignalNetwork();
        due("link(3, 1)", x.link(3, 1), 0);
        due("link(1, 3)", x.link(1, 3), 1);
        due("link(5, 0)", x.link(5, 0), 2);
        due("flow(1, 3, 0, 1)", x.flow(1, 3, 0, 1), 0);
        due("flow(3, 1, 3, 1)", x.flow(3, 1, 3, 1), 0);
        due("circuit(3, 1, 2, 0)", x.circuit(3, 1, 2, 0), 0);
        due("circuit(0, 5, 3, 0)", x.circuit(0, 5, 3, 0), 0);
        due("circuit(0, 1, 0, 0)", x.circuit(0, 1, 0, 0), NONE);
        x.activate(0, true);
        x.tick(6);
        // Side 0 is at exchange 1: its message is from 1 to 3, which are octets 4 to 7: 3 + 1 * 2^14.
        due("octet(0, 0, 4)", x.octet(0, 0, 4), 3);
        due("octet(0, 0, 5)", x.octet(0, 0, 5), 64);
        due("octet(0, 1, 4)", x.octet(0, 1, 4), 1);
        due("octet(0, 1, 5)", x.octet(0, 1, 5), 192);
    }

    private static void linkLimits() {
        about = "2 link limits";
        SignalNetwork x = new SignalNetwork();
        due("link(2, 2)", x.link(2, 2), NONE);
        for (int odd : ODD) {
            due("link(odd, 0)", x.link(odd, 0), NONE);
            due("link(0, odd)", x.link(0, odd), NONE);
        }
        for (int i = 0; i < 4; i++) {
            due("link(0, 1)", x.link(i % 2, 1 - i % 2), i);
        }
        due("the fifth", x.link(0, 1), NONE);
        due("the fifth", x.link(1, 0), NONE);
        for (int i = 4; i < 10; i++) {
            due("link", x.link(i % 5, 5), i);
        }
        due("the eleventh", x.link(2, 3), NONE);
        due("circuit(2, 3, 0, 0)", x.circuit(2, 3, 0, 0), NONE);
    }

    // ---------------------------------------------------------------- 3 route

    private static void routeWrong() {
        about = "3 route";
        SignalNetwork x = pair(1);
        due("route(0, 0, 1, -1)", x.route(0, 0, 1, NONE), false);
        due("route(0, 1, 0, -1)", x.route(0, 1, 0, NONE), false);
        due("route(0, 1, -1, 0)", x.route(0, 1, NONE, 0), false);
        due("route(0, 1, 2, 2)", x.route(0, 1, 2, 2), false);
        for (int odd : ODD) {
            due("route(odd, 1, 2, 3)", x.route(odd, 1, 2, 3), false);
            due("route(0, odd, 2, 3)", x.route(0, odd, 2, 3), false);
            due("route(0, 1, odd, 3)", x.route(0, 1, odd, 3), odd == NONE);
            due("route(0, 1, 1, odd)", x.route(0, 1, 1, odd), odd == NONE);
        }
        due("next(0, 1, 0)", x.next(0, 1, 0), 1);
        due("route(0, 1, -1, -1)", x.route(0, 1, NONE, NONE), true);
        due("next(0, 1, 0)", x.next(0, 1, 0), NONE);
        due("route(0, 1, 0, 0)", x.route(0, 1, 0, 0), false);
        due("next(0, 1, 0)", x.next(0, 1, 0), NONE);
    }

    private static void routeIsLookedAt() {
        about = "3 route and what follows";
        SignalNetwork x = row(3);
        due("next(1, 2, 20)", x.next(1, 2, 20), 0);
        due("next(0, 2, 11)", x.next(0, 2, 11), 0);
        due("next(0, 2, 0)", x.next(0, 2, 0), 1);
        due("end(0, 1, 7)", x.end(0, 1, 7), 0);
        due("route(1, 2, -1, -1)", x.route(1, 2, NONE, NONE), true);
        due("next(1, 2, 20)", x.next(1, 2, 20), 1);
        due("end(0, 1, 7)", x.end(0, 1, 7), 1);
        due("route(1, 2, 1, -1)", x.route(1, 2, 1, NONE), false);
        due("end(0, 1, 7)", x.end(0, 1, 7), 1);
        x.tick(2);
        due("next(0, 2, 11)", x.next(0, 2, 11), 1);
        due("next(0, 2, 0)", x.next(0, 2, 0), NONE);
        due("counted(3)", x.counted(3), 5);
        due("route(1, 2, -1, 2)", x.route(1, 2, NONE, 2), true);
        due("next(1, 2, 0)", x.next(1, 2, 0), 2);
        x.tick(2);
        due("next(0, 2, 11)", x.next(0, 2, 11), 0);
        due("counted(3)", x.counted(3), 6);
    }

    private static void routeOfNoNeighbour() {
        about = "3 route by no neighbour";
        SignalNetwork x = row(3);
        due("route(0, 2, 3, 1)", x.route(0, 2, 3, 1), true);
        due("next(0, 2, 0)", x.next(0, 2, 0), 1);
        due("next(0, 2, 13)", x.next(0, 2, 13), NONE);
        due("link(0, 3)", x.link(0, 3), 2);
        due("next(0, 2, 13)", x.next(0, 2, 13), 0);
        due("next(0, 2, 0)", x.next(0, 2, 0), 1);
        x.activate(2, true);
        x.tick(6);
        due("next(0, 2, 0)", x.next(0, 2, 0), 3);
        x.tick(10);
        // Exchange 3 has no way to 2, and said so.
        due("next(0, 2, 13)", x.next(0, 2, 13), 1);
        due("next(0, 2, 0)", x.next(0, 2, 0), 1);
    }

    // ---------------------------------------------------------------- 4 activate

    private static void activateStarts() {
        about = "4 activate";
        SignalNetwork x = new SignalNetwork();
        due("activate(0, true)", x.activate(0, true), false);
        x.link(0, 1);
        due("activate(0, false)", x.activate(0, false), false);
        due("end state", x.end(0, 0, 0), 0);
        due("end life", x.end(0, 0, 14), 0);
        due("activate(0, true)", x.activate(0, true), true);
        due("activate(0, true)", x.activate(0, true), false);
        for (int side = 0; side < 2; side++) {
            due("end state", x.end(0, side, 0), 1);
            due("end timer", x.end(0, side, 1), 30);
            due("end urgent", x.end(0, side, 10), 1);
            due("end life", x.end(0, side, 14), 1);
        }
        due("activate(1, true)", x.activate(1, true), false);
        due("activate(-1, true)", x.activate(-1, true), false);
        int[] states = {1, 2, 3, 3, 4, 5};
        int[] timers = {29, 14, 2, 1, 15, 0};
        for (int i = 0; i < 6; i++) {
            x.tick(1);
            due("end state", x.end(0, 1, 0), states[i]);
            due("end timer", x.end(0, 1, 1), timers[i]);
        }
        x.link(0, 1);
        x.activate(1, true);
        due("end urgent", x.end(1, 0, 10), 0);
        int[] slowStates = {1, 2, 3, 3, 3, 3, 3, 3, 3, 4, 5};
        int[] slowTimers = {29, 14, 7, 6, 5, 4, 3, 2, 1, 15, 0};
        for (int i = 0; i < slowStates.length; i++) {
            x.tick(1);
            due("slow state", x.end(1, 0, 0), slowStates[i]);
            due("slow timer", x.end(1, 0, 1), slowTimers[i]);
        }
    }

    private static void activateFails() {
        about = "4 activate no more";
        SignalNetwork x = pair(1);
        due("activate(0, false)", x.activate(0, false), true);
        due("activate(0, false)", x.activate(0, false), false);
        for (int side = 0; side < 2; side++) {
            due("end state", x.end(0, side, 0), 0);
            due("end timer", x.end(0, side, 1), 12);
            due("flow held", x.flow(side, 1 - side, 0, 1), 1);
            due("flow held for", x.flow(side, 1 - side, 0, 3), 0);
        }
        // Each end's OVER has no other way.
        due("counted(1)", x.counted(1), 2);
        x.tick(9);
        due("flow held", x.flow(0, 1, 0, 1), 1);
        x.tick(1);
        due("flow held", x.flow(0, 1, 0, 1), 0);
        due("flow current", x.flow(0, 1, 0, 0), NONE);
        x.tick(1);
        due("end timer", x.end(0, 0, 1), 1);
        x.tick(1);
        due("end timer", x.end(0, 0, 1), 0);
        due("end state", x.end(0, 0, 0), 0);
        x.tick(30);
        due("end state", x.end(0, 0, 0), 0);
        due("end life", x.end(0, 0, 14), 1);
        due("activate(0, true)", x.activate(0, true), true);
        due("end state", x.end(0, 0, 0), 1);
        due("end life", x.end(0, 0, 14), 2);
        x.activate(0, false);
        // An end that wasn't in service brings no changeover.
        due("counted(1)", x.counted(1), 2);
        due("flow held", x.flow(0, 1, 0, 1), 0);
    }

    private static void activateWaitsForTimer() {
        about = "4 activate an end with a timer";
        SignalNetwork x = pair(1);
        x.activate(0, false);
        x.tick(5);
        due("activate(0, true)", x.activate(0, true), true);
        due("end state", x.end(0, 0, 0), 0);
        due("end timer", x.end(0, 0, 1), 7);
        x.tick(6);
        due("end state", x.end(0, 0, 0), 0);
        x.tick(1);
        due("end state", x.end(0, 0, 0), 1);
        due("end timer", x.end(0, 0, 1), 30);
        // The SEEK went in that same tick.
        x.tick(4);
        due("end state", x.end(0, 0, 0), 4);
        x.tick(1);
        due("end state", x.end(0, 0, 0), 5);
    }

    // ---------------------------------------------------------------- 5 cut

    private static void cutFailsByCredit() {
        about = "5 cut";
        SignalNetwork x = pair(1);
        due("cut(1, true)", x.cut(1, true), false);
        due("cut(-1, true)", x.cut(-1, true), false);
        due("cut(0, true)", x.cut(0, true), true);
        due("cut(0, true)", x.cut(0, true), true);
        int credit = x.end(0, 0, 8);
        due("credit", credit, 0);
        x.tick(3);
        due("cut(0, false)", x.cut(0, false), true);
        due("cut(0, false)", x.cut(0, false), true);
        due("credit", x.end(0, 0, 8), 3);
        x.tick(60);
        due("credit", x.end(0, 0, 8), 0);
        due("end state", x.end(0, 0, 0), 5);
        x.cut(0, true);
        x.tick(7);
        due("end state", x.end(0, 0, 0), 0);
        due("credit", x.end(0, 0, 8), 6);
        due("round", x.end(0, 0, 9), 1);
    }

    private static void cutWhileSeeking() {
        about = "5 cut while seeking";
        SignalNetwork x = new SignalNetwork();
        x.link(0, 1);
        x.cut(0, true);
        x.activate(0, true);
        x.tick(29);
        due("end timer", x.end(0, 0, 1), 1);
        due("end state", x.end(0, 0, 0), 1);
        x.tick(1);
        due("end state", x.end(0, 0, 0), 0);
        due("end timer", x.end(0, 0, 1), 12);
        x.tick(12);
        due("end state", x.end(0, 0, 0), 1);
        due("end life", x.end(0, 0, 14), 2);
        x.cut(0, false);
        x.tick(1);
        due("end state", x.end(0, 0, 0), 2);
        x.cut(0, true);
        // The first looking at the timer of 15 was in the tick in which it was set.
        x.tick(13);
        due("end state", x.end(0, 0, 0), 2);
        due("end peer", x.end(0, 0, 15), 0);
        x.tick(1);
        due("end state", x.end(0, 0, 0), 0);
    }

    // ---------------------------------------------------------------- 6 damage

    private static void damageCounts() {
        about = "6 damage";
        SignalNetwork x = new SignalNetwork();
        due("damage(0, 0, 1)", x.damage(0, 0, 1), false);
        x.link(0, 1);
        due("damage(0, 2, 1)", x.damage(0, 2, 1), false);
        due("damage(0, -1, 1)", x.damage(0, -1, 1), false);
        due("damage(1, 0, 1)", x.damage(1, 0, 1), false);
        due("damage(0, 0, -1)", x.damage(0, 0, -1), false);
        due("damage(0, 0, 101)", x.damage(0, 0, 101), false);
        due("end damaged", x.end(0, 0, 13), 0);
        due("damage(0, 0, 100)", x.damage(0, 0, 100), true);
        due("end damaged", x.end(0, 0, 13), 100);
        due("end damaged", x.end(0, 1, 13), 0);
        // Of an end that is OUT, and of a cut link, what arrives counts too.
        x.tick(2);
        due("end damaged", x.end(0, 0, 13), 98);
        x.cut(0, true);
        x.tick(3);
        due("end damaged", x.end(0, 0, 13), 95);
        due("damage(0, 0, 4)", x.damage(0, 0, 4), true);
        due("end damaged", x.end(0, 0, 13), 4);
        x.tick(6);
        due("end damaged", x.end(0, 0, 13), 0);
        due("damage(0, 0, 7)", x.damage(0, 0, 7), true);
        due("damage(0, 0, 101)", x.damage(0, 0, 101), false);
        due("end damaged", x.end(0, 0, 13), 7);
        due("damage(0, 0, 0)", x.damage(0, 0, 0), true);
        due("end damaged", x.end(0, 0, 13), 0);
    }

    private static void damageWhileProving() {
        about = "6 damage while proving urgently";
        SignalNetwork x = new SignalNetwork();
        x.link(0, 1);
        x.activate(0, true);
        x.tick(4);
        due("end timer", x.end(0, 0, 1), 1);
        due("round", x.end(0, 0, 9), 1);
        x.damage(0, 0, 1);
        x.tick(1);
        due("round", x.end(0, 0, 9), 2);
        due("end timer", x.end(0, 0, 1), 2);
        due("other's state", x.end(0, 1, 0), 4);
        x.tick(2);
        due("end state", x.end(0, 0, 0), 4);
        // READY, the other end heard PROVE till now: it goes on waiting.
        due("other's state", x.end(0, 1, 0), 4);
        x.tick(1);
        due("end state", x.end(0, 0, 0), 5);
        due("other's state", x.end(0, 1, 0), 5);
    }

    private static void damageFifthRound() {
        about = "6 damage to the fifth round";
        SignalNetwork x = new SignalNetwork();
        x.link(0, 1);
        x.activate(0, true);
        x.tick(3);
        x.damage(0, 0, 3);
        x.tick(3);
        due("end state", x.end(0, 0, 0), 3);
        due("round", x.end(0, 0, 9), 4);
        x.damage(0, 0, 1);
        x.tick(1);
        due("end state", x.end(0, 0, 0), 0);
        due("end timer", x.end(0, 0, 1), 11);
        due("round", x.end(0, 0, 9), 5);
        // The other end is READY and gets a STOP.
        due("other's state", x.end(0, 1, 0), 4);
        x.tick(1);
        due("other's state", x.end(0, 1, 0), 0);
        due("counted(1)", x.counted(1), 0);
    }

    private static void damageNotUrgent() {
        about = "6 damage while proving for 8";
        SignalNetwork x = pair(1);
        x.link(0, 1);
        x.activate(1, true);
        x.tick(4);
        due("end timer", x.end(1, 0, 1), 6);
        x.damage(1, 0, 1);
        x.tick(1);
        due("end timer", x.end(1, 0, 1), 5);
        due("round", x.end(1, 0, 9), 1);
        x.tick(1);
        x.damage(1, 0, 1);
        x.tick(1);
        due("round", x.end(1, 0, 9), 2);
        due("end timer", x.end(1, 0, 1), 7);
        x.damage(1, 0, 1);
        x.tick(1);
        due("round", x.end(1, 0, 9), 2);
        due("end timer", x.end(1, 0, 1), 6);
        x.tick(7);
        due("end state", x.end(1, 0, 0), 5);
    }

    private static void damageCredit() {
        about = "6 damage and the credit";
        SignalNetwork x = new SignalNetwork();
        x.link(0, 1);
        x.activate(0, true);
        // READY in tick 5; units 1, 2, .. since then arrive in ticks 6, 7, ..: the 16th in tick 21.
        x.tick(15);
        x.damage(0, 0, 5);
        x.tick(5);
        due("credit", x.end(0, 0, 8), 5);
        x.damage(0, 0, 1);
        x.tick(1);
        // The 16th unit is BAD: it makes the credit 4 first, then 5.
        due("credit", x.end(0, 0, 8), 5);
        due("end state", x.end(0, 0, 0), 5);
        x.tick(16);
        due("credit", x.end(0, 0, 8), 4);
        x.damage(0, 0, 1);
        x.tick(1);
        due("credit", x.end(0, 0, 8), 5);
        x.damage(0, 0, 1);
        x.tick(1);
        due("end state", x.end(0, 0, 0), 0);
        due("credit", x.end(0, 0, 8), 6);
        due("end timer", x.end(0, 0, 1), 11);
    }

    private static void damageIsRepeated() {
        about = "6 damage is repeated";
        SignalNetwork x = pair(1);
        due("sent", x.end(0, 0, 2), 3);
        due("taken", x.end(0, 1, 3), 3);
        x.block(0, 1, 0, true);
        x.block(0, 1, 1, true);
        x.tick(1);
        due("sent", x.end(0, 0, 2), 4);
        due("not acknowledged", x.end(0, 0, 6), 1);
        due("waiting", x.end(0, 0, 7), 1);
        due("patience", x.end(0, 0, 11), 20);
        x.damage(0, 1, 1);
        x.tick(1);
        due("taken", x.end(0, 1, 3), 3);
        due("sent", x.end(0, 0, 2), 5);
        x.tick(1);
        // Message 5 comes instead of 4: the other bit.
        due("backward", x.end(0, 1, 5), 0);
        due("forward", x.end(0, 0, 4), 1);
        x.tick(1);
        due("forward", x.end(0, 0, 4), 0);
        due("repeats", x.end(0, 0, 12), 1);
        due("number repeated", x.octet(0, 0, 1), 4);
        x.tick(1);
        due("repeats", x.end(0, 0, 12), 0);
        due("number repeated", x.octet(0, 0, 1), 5);
        due("taken", x.end(0, 1, 3), 4);
        x.tick(1);
        due("taken", x.end(0, 1, 3), 5);
        due("not acknowledged", x.end(0, 0, 6), 1);
        due("patience", x.end(0, 0, 11), 19);
        x.tick(1);
        due("not acknowledged", x.end(0, 0, 6), 0);
        due("patience", x.end(0, 0, 11), 0);
        due("blocked there", x.circuit(1, 0, 0, 3), 1);
        due("blocked there", x.circuit(1, 0, 1, 3), 1);
        due("done", x.counted(2), 10);
    }

    // ---------------------------------------------------------------- 7 tick

    private static void tickCounts() {
        about = "7 tick";
        SignalNetwork x = new SignalNetwork();
        due("tick(-1)", x.tick(-1), NONE);
        due("tick(201)", x.tick(201), NONE);
        due("tick(0)", x.tick(0), 0);
        due("tick(200)", x.tick(200), 200);
        due("tick(1)", x.tick(1), 201);
        for (int odd : ODD) {
            if (odd < 0 || odd > 200) {
                due("tick(odd)", x.tick(odd), NONE);
            }
        }
        due("counted(0)", x.counted(0), 201);
    }

    private static void timersBeginBehind() {
        about = "7 tick: a timer set while timers are looked at";
        SignalNetwork x = row(3);
        due("dial(20, 0)", x.dial(20, 0), true);
        x.tick(4);
        due("circuit(1, 0, 0, 0)", x.circuit(1, 0, 0, 0), 2);
        due("circuit(1, 0, 0, 1)", x.circuit(1, 0, 0, 1), 59);
        due("circuit(1, 2, 0, 0)", x.circuit(1, 2, 0, 0), 5);
        x.tick(58);
        due("circuit(1, 0, 0, 1)", x.circuit(1, 0, 0, 1), 1);
        x.tick(1);
        due("circuit(1, 0, 0, 0)", x.circuit(1, 0, 0, 0), 7);
        due("circuit(1, 0, 0, 1)", x.circuit(1, 0, 0, 1), 6);
        // The other leg is looked at behind that, in the same looking, which doesn't count for it.
        due("circuit(1, 2, 0, 0)", x.circuit(1, 2, 0, 0), 7);
        due("circuit(1, 2, 0, 1)", x.circuit(1, 2, 0, 1), 6);
        x.tick(1);
        due("circuit(2, 1, 0, 0)", x.circuit(2, 1, 0, 0), 0);
        due("subscriber(20, 0)", x.subscriber(20, 0), 5);
        due("subscriber(0, 0)", x.subscriber(0, 0), 0);
    }

    private static void timersAnswered() {
        about = "7 tick: what times out further on is released there";
        SignalNetwork x = row(3);
        x.activate(1, false);
        x.tick(20);
        due("dial(0, 20)", x.dial(0, 20), true);
        x.tick(2);
        due("circuit(1, 0, 0, 0)", x.circuit(1, 0, 0, 0), 4);
        due("circuit(1, 2, 0, 0)", x.circuit(1, 2, 0, 0), 1);
        due("circuit(1, 2, 0, 1)", x.circuit(1, 2, 0, 1), 19);
        due("circuit(0, 1, 0, 1)", x.circuit(0, 1, 0, 1), 18);
        x.tick(18);
        due("circuit(0, 1, 0, 0)", x.circuit(0, 1, 0, 0), 7);
        due("circuit(0, 1, 0, 1)", x.circuit(0, 1, 0, 1), 6);
        due("subscriber(0, 0)", x.subscriber(0, 0), 5);
        x.tick(1);
        due("circuit(1, 0, 0, 0)", x.circuit(1, 0, 0, 0), 0);
        due("circuit(1, 2, 0, 0)", x.circuit(1, 2, 0, 0), 7);
        due("circuit(1, 2, 0, 1)", x.circuit(1, 2, 0, 1), 5);
    }

    // ---------------------------------------------------------------- 8 dial

    private static void dialHere() {
        about = "8 dial at the same exchange";
        SignalNetwork x = new SignalNetwork();
        due("dial(0, 1)", x.dial(0, 1), true);
        due("caller", x.subscriber(0, 0), 2);
        due("called", x.subscriber(1, 0), 3);
        due("leg", x.subscriber(0, 1), 1);
        due("leg", x.subscriber(1, 1), 0);
        due("talks", x.subscriber(0, 2), NONE);
        due("dial(1, 2)", x.dial(1, 2), false);
        due("dial(0, 2)", x.dial(0, 2), false);
        due("dial(2, 1)", x.dial(2, 1), true);
        due("let go", x.subscriber(2, 0), 5);
        due("leg", x.subscriber(2, 1), NONE);
        due("called still", x.subscriber(1, 1), 0);
        due("dial(2, 3)", x.dial(2, 3), false);
        due("answer(1)", x.answer(1), true);
        due("talks", x.subscriber(0, 2), 1);
        due("talks", x.subscriber(1, 2), 0);
        due("hang(0)", x.hang(0), true);
        due("idle", x.subscriber(0, 0), 0);
        due("ended", x.subscriber(1, 0), 5);
        due("hang(1)", x.hang(1), true);
        due("counted(1)", x.counted(1), 0);
    }

    private static void dialWrong() {
        about = "8 dial wrong";
        SignalNetwork x = pair(1);
        due("dial(0, 0)", x.dial(0, 0), false);
        due("dial(0, 4)", x.dial(0, 4), false);
        due("dial(4, 0)", x.dial(4, 0), false);
        due("dial(0, 60)", x.dial(0, 60), false);
        for (int odd : ODD) {
            if (odd < 10 || odd > 10) {
                due("dial(0, odd)", x.dial(0, odd), false);
                due("dial(odd, 0)", x.dial(odd, 0), false);
            }
        }
        due("idle", x.subscriber(0, 0), 0);
        // No neighbour is told for exchange 5.
        due("dial(0, 53)", x.dial(0, 53), true);
        due("ended", x.subscriber(0, 0), 5);
    }

    private static void dialFar() {
        about = "8 dial from exchange to exchange";
        SignalNetwork x = row(3);
        due("dial(3, 20)", x.dial(3, 20), true);
        due("caller", x.subscriber(3, 0), 1);
        due("leg", x.subscriber(3, 1), 110);
        due("state", x.circuit(0, 1, 0, 0), 1);
        due("timer", x.circuit(0, 1, 0, 1), 20);
        due("other leg", x.circuit(0, 1, 0, 4), 3);
        due("wanted", x.circuit(0, 1, 0, 5), 20);
        due("count", x.circuit(0, 1, 0, 6), 1);
        due("length", x.circuit(0, 1, 0, 7), 1);
        x.tick(2);
        due("state", x.circuit(1, 0, 0, 0), 4);
        due("other leg", x.circuit(1, 0, 0, 4), 120);
        due("other leg", x.circuit(1, 2, 0, 4), 100);
        due("connected for", x.circuit(1, 0, 0, 5), 20);
        due("count", x.circuit(1, 0, 0, 6), 1);
        due("length", x.circuit(1, 0, 0, 7), 1);
        due("length", x.circuit(1, 2, 0, 7), 2);
        x.tick(1);
        due("state", x.circuit(2, 1, 0, 0), 5);
        due("length", x.circuit(2, 1, 0, 7), 2);
        due("ringing", x.subscriber(20, 0), 3);
        due("leg", x.subscriber(20, 1), 110);
        x.tick(1);
        due("state", x.circuit(1, 2, 0, 0), 2);
        due("timer", x.circuit(1, 2, 0, 1), 59);
        due("state", x.circuit(1, 0, 0, 0), 5);
        due("caller", x.subscriber(3, 0), 1);
        x.tick(1);
        due("caller", x.subscriber(3, 0), 2);
        due("state", x.circuit(0, 1, 0, 0), 2);
        // Nobody answers: the first circuit's 60 are out 59 ticks behind this, the second's a tick ahead.
        x.tick(57);
        due("timer", x.circuit(1, 2, 0, 1), 1);
        x.tick(1);
        due("state", x.circuit(1, 2, 0, 0), 7);
        due("state", x.circuit(1, 0, 0, 0), 7);
        due("wanted", x.circuit(1, 2, 0, 5), NONE);
        due("length", x.circuit(1, 2, 0, 7), 0);
        due("leg", x.circuit(1, 2, 0, 4), NONE);
        x.tick(1);
        due("ringing no more", x.subscriber(20, 0), 0);
        due("ended", x.subscriber(3, 0), 5);
    }

    private static void dialTooLong() {
        about = "8 dial: seven circuits are too many";
        SignalNetwork x = new SignalNetwork();
        for (int i = 0; i < 3; i++) {
            x.link(i, (i + 1) % 3);
        }
        // A ring that never comes to 4, which all believe to be behind the next.
        for (int i = 0; i < 3; i++) {
            x.route(i, (i + 1) % 3, (i + 1) % 3, NONE);
            x.route(i, (i + 2) % 3, (i + 2) % 3, NONE);
            x.route(i, 4, (i + 1) % 3, NONE);
        }
        for (int i = 0; i < 3; i++) {
            x.activate(i, true);
        }
        x.tick(30);
        due("dial(0, 40)", x.dial(0, 40), true);
        x.tick(7);
        due("length", x.circuit(0, 1, 0, 7), 1);
        due("length", x.circuit(1, 2, 0, 7), 2);
        due("length", x.circuit(2, 0, 0, 7), 3);
        due("length", x.circuit(0, 1, 1, 7), 4);
        due("length", x.circuit(1, 2, 1, 7), 5);
        // The sixth came to exchange 0, where a seventh isn't looked for: it is released at once.
        due("sixth there", x.circuit(0, 2, 1, 0), 7);
        due("sixth here", x.circuit(2, 0, 1, 0), 1);
        due("count", x.circuit(2, 0, 1, 6), 1);
        x.tick(20);
        due("ended", x.subscriber(0, 0), 5);
        due("idle", x.circuit(2, 0, 1, 0), 0);
        due("idle", x.circuit(0, 1, 0, 0), 0);
    }

    private static void dialBusyCircuits() {
        about = "8 dial takes the lowest circuit, then the second neighbour";
        SignalNetwork x = triangle();
        x.block(0, 1, 0, true);
        x.block(1, 0, 2, true);
        x.tick(3);
        due("dial(0, 10)", x.dial(0, 10), true);
        due("leg", x.subscriber(0, 1), 111);
        due("dial(1, 11)", x.dial(1, 11), true);
        due("leg", x.subscriber(1, 1), 113);
        due("dial(2, 12)", x.dial(2, 12), true);
        due("leg", x.subscriber(2, 1), 120);
        x.tick(4);
        due("ringing", x.subscriber(10, 0), 3);
        due("ringing", x.subscriber(12, 0), 3);
        due("leg", x.subscriber(12, 1), 120);
        // A call doesn't go back to where it came from: from 2 to 1 all are blocked, and 0 is no way.
        x.hang(2);
        x.tick(10);
        for (int c = 0; c < 4; c++) {
            x.block(2, 1, c, true);
        }
        due("dial(2, 12)", x.dial(2, 12), true);
        x.tick(2);
        due("let go", x.circuit(2, 0, 0, 0), 7);
        x.tick(3);
        due("ended", x.subscriber(2, 0), 5);
    }

    private static void dialTimesOut() {
        about = "8 dial without a way for messages";
        SignalNetwork x = new SignalNetwork();
        x.link(0, 1);
        x.route(0, 1, 1, NONE);
        due("dial(0, 10)", x.dial(0, 10), true);
        due("state", x.circuit(0, 1, 0, 0), 1);
        due("lost", x.counted(1), 1);
        x.tick(19);
        due("timer", x.circuit(0, 1, 0, 1), 1);
        due("caller", x.subscriber(0, 0), 1);
        x.tick(1);
        due("state", x.circuit(0, 1, 0, 0), 7);
        due("caller", x.subscriber(0, 0), 5);
        due("lost", x.counted(1), 2);
    }

    private static void dialIsReleasedAndReset() {
        about = "8 dial: a release that is never answered";
        SignalNetwork x = new SignalNetwork();
        x.link(0, 1);
        x.route(0, 1, 1, NONE);
        x.dial(0, 10);
        x.hang(0);
        due("caller", x.subscriber(0, 0), 0);
        due("state", x.circuit(0, 1, 0, 0), 7);
        due("timer", x.circuit(0, 1, 0, 1), 6);
        due("lost", x.counted(1), 2);
        x.tick(6);
        due("timer", x.circuit(0, 1, 0, 1), 6);
        due("lost", x.counted(1), 3);
        x.tick(23);
        due("timer", x.circuit(0, 1, 0, 1), 1);
        due("lost", x.counted(1), 6);
        x.tick(1);
        // The fifth time the RELEASE goes, and behind it the first RESET.
        due("state", x.circuit(0, 1, 0, 0), 8);
        due("timer", x.circuit(0, 1, 0, 1), 30);
        due("lost", x.counted(1), 8);
        x.tick(29);
        due("lost", x.counted(1), 8);
        x.tick(1);
        due("lost", x.counted(1), 9);
        due("timer", x.circuit(0, 1, 0, 1), 30);
        due("count", x.circuit(0, 1, 0, 6), 1);
        // With a way, RESET is answered with RELEASED.
        x.route(1, 0, 0, NONE);
        x.activate(0, true);
        x.tick(29);
        due("state", x.circuit(0, 1, 0, 0), 8);
        x.tick(4);
        due("state", x.circuit(0, 1, 0, 0), 0);
        due("timer", x.circuit(0, 1, 0, 1), 0);
        due("kind", x.counted(3), 11);
    }

    // ---------------------------------------------------------------- 9 answer

    private static void answerTalks() {
        about = "9 answer";
        SignalNetwork x = row(3);
        due("answer(20)", x.answer(20), false);
        x.dial(0, 20);
        x.tick(10);
        due("answer(0)", x.answer(0), false);
        due("answer(20)", x.answer(20), true);
        due("answer(20)", x.answer(20), false);
        due("called", x.subscriber(20, 0), 4);
        due("state", x.circuit(2, 1, 0, 0), 6);
        due("talks", x.subscriber(20, 2), NONE);
        x.tick(2);
        due("state", x.circuit(1, 2, 0, 0), 3);
        due("timer", x.circuit(1, 2, 0, 1), 0);
        due("state", x.circuit(1, 0, 0, 0), 6);
        due("talks", x.subscriber(20, 2), NONE);
        x.tick(1);
        due("state", x.circuit(0, 1, 0, 0), 3);
        due("talks", x.subscriber(20, 2), 0);
        due("talks", x.subscriber(0, 2), 20);
        x.tick(200);
        due("talks", x.subscriber(0, 2), 20);
        for (int odd : ODD) {
            due("answer(odd)", x.answer(odd), false);
        }
    }

    // ---------------------------------------------------------------- 10 hang

    private static void hangLetsGo() {
        about = "10 hang";
        SignalNetwork x = row(3);
        due("hang(0)", x.hang(0), false);
        for (int odd : ODD) {
            due("hang(odd)", x.hang(odd), false);
        }
        x.dial(0, 20);
        due("hang(0), calling", x.hang(0), true);
        due("caller", x.subscriber(0, 0), 0);
        due("leg", x.subscriber(0, 1), NONE);
        due("state", x.circuit(0, 1, 0, 0), 7);
        due("dial(0, 20)", x.dial(0, 20), true);
        due("leg", x.subscriber(0, 1), 111);
        x.tick(5);
        due("first is idle", x.circuit(0, 1, 0, 0), 0);
        x.tick(4);
        due("hearing", x.subscriber(0, 0), 2);
        due("hang(20), ringing", x.hang(20), false);
        due("hang(0), hearing", x.hang(0), true);
        x.tick(3);
        due("called", x.subscriber(20, 0), 0);
        x.tick(3);
        due("idle", x.circuit(0, 1, 1, 0), 0);
        due("idle", x.circuit(1, 2, 1, 0), 0);
        x.dial(0, 20);
        x.tick(8);
        x.answer(20);
        x.tick(5);
        due("hang(20), talking", x.hang(20), true);
        due("called", x.subscriber(20, 0), 0);
        due("state", x.circuit(2, 1, 0, 0), 7);
        due("talks no more", x.subscriber(0, 2), NONE);
        due("but doesn't know", x.subscriber(0, 0), 4);
        x.tick(3);
        due("caller", x.subscriber(0, 0), 5);
        due("hang(0), ended", x.hang(0), true);
        due("caller", x.subscriber(0, 0), 0);
        due("hang(0), idle", x.hang(0), false);
    }

    // ---------------------------------------------------------------- 11 block

    private static void blockCircuits() {
        about = "11 block";
        SignalNetwork x = pair(1);
        due("block(0, 2, 0, true)", x.block(0, 2, 0, true), false);
        due("block(0, 1, 4, true)", x.block(0, 1, 4, true), false);
        due("block(0, 1, -1, true)", x.block(0, 1, -1, true), false);
        due("block(0, 0, 0, true)", x.block(0, 0, 0, true), false);
        due("block(0, 1, 0, false)", x.block(0, 1, 0, false), false);
        for (int odd : ODD) {
            due("block(odd, 1, 0, true)", x.block(odd, 1, 0, true), false);
            due("block(0, odd, 0, true)", x.block(0, odd, 0, true), false);
        }
        due("waiting", x.end(0, 0, 7), 0);
        due("block(0, 1, 0, true)", x.block(0, 1, 0, true), true);
        due("block(0, 1, 0, true)", x.block(0, 1, 0, true), false);
        due("waiting", x.end(0, 0, 7), 1);
        due("blocked here", x.circuit(0, 1, 0, 2), 1);
        due("blocked there", x.circuit(0, 1, 0, 3), 0);
        x.tick(2);
        due("blocked there", x.circuit(1, 0, 0, 3), 1);
        due("kind", x.counted(3), 13);
        due("dial(10, 0)", x.dial(10, 0), true);
        due("leg", x.subscriber(10, 1), 101);
        due("dial(0, 11)", x.dial(0, 11), true);
        due("leg", x.subscriber(0, 1), 111);
        due("block(0, 1, 0, false)", x.block(0, 1, 0, false), true);
        x.tick(3);
        due("blocked here", x.circuit(0, 1, 0, 2), 0);
        due("blocked there", x.circuit(1, 0, 0, 3), 0);
        // A call that is under way goes on, and an INITIAL comes to a blocked circuit all the same.
        SignalNetwork y = pair(1);
        y.block(1, 0, 0, true);
        y.dial(0, 10);
        y.tick(3);
        due("state", y.circuit(1, 0, 0, 0), 5);
        due("ringing", y.subscriber(10, 0), 3);
    }

    // ---------------------------------------------------------------- 12 end

    private static void endAtFirst() {
        about = "12 end";
        SignalNetwork x = new SignalNetwork();
        x.link(0, 1);
        int[] first = {0, 0, 127, 127, 1, 1, 0, 0, 0, 0, 0, 0, 0, 0, 0, 0};
        for (int what = 0; what < 16; what++) {
            due("end(0, 0, " + what + ")", x.end(0, 0, what), first[what]);
            due("end(0, 1, " + what + ")", x.end(0, 1, what), first[what]);
        }
        due("end(0, 0, 16)", x.end(0, 0, 16), NONE);
        due("end(0, 0, -1)", x.end(0, 0, -1), NONE);
        due("end(0, 2, 0)", x.end(0, 2, 0), NONE);
        due("end(0, -1, 0)", x.end(0, -1, 0), NONE);
        due("end(1, 0, 0)", x.end(1, 0, 0), NONE);
        due("end(-1, 0, 0)", x.end(-1, 0, 0), NONE);
    }

    private static void endLife() {
        about = "12 end: life and peer";
        SignalNetwork x = new SignalNetwork();
        x.link(0, 1);
        for (int i = 1; i <= 17; i++) {
            x.activate(0, true);
            due("life", x.end(0, 0, 14), i % 16);
            x.tick(4);
            due("peer", x.end(0, 0, 15), i % 16);
            x.activate(0, false);
            x.tick(12);
            due("timer", x.end(0, 0, 1), 0);
        }
        // An end that is OUT learns nothing from a PROVE, and what it knew stays.
        due("peer", x.end(0, 0, 15), 1);
    }

    private static void endPatience() {
        about = "12 end: the timer of waiting";
        SignalNetwork x = pair(1);
        x.tick(4);
        x.block(0, 1, 0, true);
        x.tick(1);
        due("patience", x.end(0, 0, 11), 20);
        due("timer", x.end(0, 0, 1), 0);
        // So seldom damaged that no end fails by its credit, but the message never comes through.
        for (int i = 0; i < 19; i++) {
            if (x.octet(0, 0, 2) == 8) {
                x.damage(0, 1, 1);
            }
            if (i == 2) {
                x.damage(0, 0, 5);
            }
            x.tick(1);
            due("patience", x.end(0, 0, 11), 19 - i);
            due("state", x.end(0, 0, 0), 5);
        }
        x.damage(0, 1, 1);
        x.tick(1);
        due("state", x.end(0, 0, 0), 0);
        due("patience", x.end(0, 0, 11), 0);
        due("timer", x.end(0, 0, 1), 12);
        due("repeats", x.end(0, 0, 12), 0);
        due("not acknowledged", x.end(0, 0, 6), 1);
        due("sent stays", x.end(0, 0, 2), 4);
        x.tick(10);
        due("not acknowledged", x.end(0, 0, 6), 0);
        // Two OVERs and the BLOCK.
        due("lost", x.counted(1), 3);
    }

    private static void endWindow() {
        about = "12 end: numbers, and 32 that are not acknowledged";
        SignalNetwork x = pair(1);
        int sent = x.end(0, 0, 2);
        for (int i = 0; i < 64; i++) {
            x.block(0, 1, 0, i % 2 == 0);
        }
        due("waiting", x.end(0, 0, 7), 64);
        due("lost", x.counted(1), 0);
        due("block", x.block(0, 1, 0, true), true);
        due("waiting", x.end(0, 0, 7), 64);
        due("lost", x.counted(1), 1);
        x.tick(3);
        due("sent", x.end(0, 0, 2), sent + 3);
        due("not acknowledged", x.end(0, 0, 6), 2);
        // Without acknowledgement (BAD ones at side 0, five at most) the window only grows.
        x.damage(0, 0, 5);
        x.tick(5);
        due("not acknowledged", x.end(0, 0, 6), 7);
        x.tick(60);
        due("waiting", x.end(0, 0, 7), 0);
        due("sent", x.end(0, 0, 2), sent + 64);
        for (int round = 0; round < 2; round++) {
            for (int i = 0; i < 60; i++) {
                x.block(0, 1, 1, i % 2 == 0);
            }
            x.tick(70);
        }
        due("sent", x.end(0, 0, 2), (sent + 184) % 128);
        due("taken", x.end(0, 1, 3), (sent + 184) % 128);
        due("not acknowledged", x.end(0, 0, 6), 0);
    }

    // ---------------------------------------------------------------- 13 octet

    private static int check(int... octets) {
        int c = 65535;
        for (int o : octets) {
            c ^= o;
            for (int i = 0; i < 8; i++) {
                c = (c & 1) != 0 ? c >>> 1 ^ 0x8408 : c >>> 1;
            }
        }
        return ~c & 65535;
    }

    private static void dueOctets(SignalNetwork x, int side, int... octets) {
        for (int i = 0; i < octets.length; i++) {
            due("octet(0, " + side + ", " + i + ")", x.octet(0, side, i), octets[i]);
        }
        int check = check(octets);
        due("check", x.octet(0, side, octets.length), check % 256);
        due("check", x.octet(0, side, octets.length + 1), check / 256);
        due("behind", x.octet(0, side, octets.length + 2), NONE);
        due("ahead", x.octet(0, side, -1), NONE);
    }

    private static void octetsOfState() {
        about = "13 octet";
        // A known value of this check: "123456789".
        due("the test's own check", check('1', '2', '3', '4', '5', '6', '7', '8', '9'), 0x906E);
        SignalNetwork x = new SignalNetwork();
        due("octet(0, 0, 0)", x.octet(0, 0, 0), NONE);
        x.link(0, 1);
        due("octet(0, 0, 0)", x.octet(0, 0, 0), NONE);
        x.tick(1);
        dueOctets(x, 0, 255, 255, 1, 0);
        dueOctets(x, 1, 255, 255, 1, 0);
        due("octet(0, 2, 0)", x.octet(0, 2, 0), NONE);
        due("octet(1, 0, 0)", x.octet(1, 0, 0), NONE);
        x.activate(0, true);
        dueOctets(x, 0, 255, 255, 1, 0);
        x.tick(1);
        dueOctets(x, 0, 255, 255, 1, 1);
        x.tick(1);
        dueOctets(x, 0, 255, 255, 1, 3 + 4);
        x.tick(3);
        dueOctets(x, 0, 255, 255, 0);
        x.tick(20);
        // Four CLOSED each way: numbers 0 to 3.
        dueOctets(x, 0, 131, 131, 0);
        x.link(0, 1);
        x.activate(1, true);
        x.tick(2);
        due("not urgent", x.octet(1, 0, 3), 2 + 4);
    }

    private static void octetsOfMessage() {
        about = "13 octet of messages";
        SignalNetwork x = row(3);
        x.dial(0, 23);
        x.tick(1);
        int n = x.end(0, 0, 2);
        int taken = x.end(0, 0, 3);
        // INITIAL to 1 from 0 in flow 0; circuit 0 and 4 * 1; 23 + 64 * 1.
        dueOctets(x, 0, 128 + taken, 128 + n, 8, 7, 1, 0, 0, 0, 4, 87, 0);
        x.dial(1, 22);
        x.dial(2, 21);
        x.dial(3, 20);
        x.tick(3);
        // The fourth circuit: flow 3, which is 3 * 2^28.
        dueOctets(x, 0, 128 + x.end(0, 0, 3), 128 + n + 3, 8, 7, 1, 0, 0, 48, 7, 84, 0);
        // From 4 to 5: 5 + 4 * 2^14, so that the 1 is in the third of the four.
        SignalNetwork y = new SignalNetwork();
        y.link(5, 4);
        y.activate(0, true);
        y.tick(6);
        dueOctets(y, 0, 255, 128, 8, 5, 5, 0, 1, 0, 0, 0, 0);
        dueOctets(y, 1, 255, 128, 8, 5, 4, 64, 1, 0, 0, 0, 0);
        // A message on its way from 0 to 2 over 1 has a hop: in the triangle, if link 2 fails.
        SignalNetwork z = triangle();
        z.activate(2, false);
        z.tick(2);
        due("an OVER by 1", z.octet(1, 0, 3), 1);
        due("its to", z.octet(1, 0, 4), 2);
        due("its link, and 16 times the life", z.octet(1, 0, 8), 2 + 16);
        due("its hops", z.octet(1, 0, 10), 1);
    }

    // ---------------------------------------------------------------- 14 bits

    private static int stuffed(SignalNetwork x, int link, int side) {
        int bits = 0;
        int ones = 0;
        for (int i = 0; x.octet(link, side, i) != NONE; i++) {
            for (int b = 0; b < 8; b++) {
                bits++;
                ones = (x.octet(link, side, i) >> b & 1) == 1 ? ones + 1 : 0;
                if (ones == 5) {
                    bits++;
                    ones = 0;
                }
            }
        }
        return bits;
    }

    private static void bitsOnLine() {
        about = "14 bits";
        SignalNetwork x = new SignalNetwork();
        due("bits(0, 0)", x.bits(0, 0), NONE);
        x.link(0, 1);
        due("bits(0, 0)", x.bits(0, 0), NONE);
        x.activate(0, true);
        x.tick(1);
        // 16 ones have three zeros put in; the check of a SEEK none.
        due("bits(0, 0)", x.bits(0, 0), 51);
        x.tick(4);
        // A FILL of 255, 255, 0 and its check: 40 bits and six put in.
        due("bits(0, 0)", x.bits(0, 0), 46);
        // A new object each time: 512 calls are promised, and spelling a unit takes many.
        for (int i = 0; i < 30; i++) {
            SignalNetwork y = new SignalNetwork();
            y.link(0, 1);
            y.activate(0, true);
            y.tick(i);
            due("bits(0, " + i % 2 + ")", y.bits(0, i % 2), i == 0 ? NONE : stuffed(y, 0, i % 2));
        }
        due("bits(0, 2)", x.bits(0, 2), NONE);
        due("bits(0, -1)", x.bits(0, -1), NONE);
        due("bits(1, 0)", x.bits(1, 0), NONE);
        due("bits(-1, 0)", x.bits(-1, 0), NONE);
    }

    // ---------------------------------------------------------------- 15 flow

    private static void flowChangesOver() {
        about = "15 flow: changeover";
        SignalNetwork x = pair(2);
        for (int s = 0; s < 4; s++) {
            due("current", x.flow(0, 1, s, 0), s % 2);
            due("held", x.flow(0, 1, s, 1), 0);
            due("kept", x.flow(0, 1, s, 2), 0);
            due("changeover", x.flow(0, 1, s, 3), NONE);
        }
        due("flow(0, 1, 0, 4)", x.flow(0, 1, 0, 4), NONE);
        due("flow(0, 1, 0, -1)", x.flow(0, 1, 0, -1), NONE);
        due("flow(0, 1, 4, 0)", x.flow(0, 1, 4, 1), NONE);
        due("flow(0, 1, -1, 0)", x.flow(0, 1, -1, 1), NONE);
        due("flow(0, 2, 0, 0)", x.flow(0, 2, 0, 1), NONE);
        due("flow(6, 1, 0, 0)", x.flow(6, 1, 0, 1), NONE);
        due("flow(0, -1, 0, 0)", x.flow(0, -1, 0, 1), NONE);
        x.cut(0, true);
        x.tick(5);
        x.block(0, 1, 0, true);
        x.tick(1);
        // Failed by its credit at both: the BLOCK, which was never sent, waits at the end.
        int failed = x.end(0, 0, 0);
        due("state", failed, 0);
        due("current", x.flow(0, 1, 0, 0), NONE);
        due("held", x.flow(0, 1, 0, 1), 1);
        due("changeover", x.flow(0, 1, 0, 3), 0);
        due("current", x.flow(0, 1, 1, 0), 1);
        due("held", x.flow(0, 1, 1, 1), 0);
        x.block(0, 1, 0, false);
        due("kept", x.flow(0, 1, 0, 2), 1);
        due("over sent", x.octet(1, 0, 3), 1);
        due("its link", x.octet(1, 0, 8), 16);
        x.tick(1);
        // The OVER came: it is enough, both ends go on by link 1.
        due("current", x.flow(0, 1, 0, 0), 1);
        due("held", x.flow(0, 1, 0, 1), 0);
        due("changeover", x.flow(0, 1, 0, 3), NONE);
        due("kept", x.flow(0, 1, 0, 2), 0);
        due("nothing is left", x.end(0, 0, 6) + x.end(0, 0, 7), 0);
        x.tick(6);
        due("blocked, then no more", x.circuit(1, 0, 0, 3), 0);
        due("kind", x.counted(3), 14);
        due("lost", x.counted(1), 0);
    }

    private static void flowChangesBack() {
        about = "15 flow: changeback";
        SignalNetwork x = pair(1);
        x.link(0, 1);
        x.activate(1, true);
        x.tick(11);
        due("link 1", x.end(1, 0, 0), 5);
        for (int s = 0; s < 4; s++) {
            due("current", x.flow(0, 1, s, 0), 0);
            due("held", x.flow(0, 1, s, 1), s % 2 == 0 ? 0 : 2);
            due("changeover", x.flow(0, 1, s, 3), NONE);
        }
        due("a BACK", x.octet(0, 0, 3), 3);
        due("its flow", x.octet(0, 0, 8), 1);
        due("its count", x.octet(0, 0, 9), 1);
        due("the next waits", x.end(0, 0, 7), 1);
        x.block(0, 1, 1, true);
        due("kept", x.flow(0, 1, 1, 2), 1);
        x.tick(1);
        // Both exchanges changed back at once: each BACK is answered on link 0, the lowest.
        due("held", x.flow(0, 1, 1, 1), 2);
        due("waiting", x.end(0, 0, 7), 1);
        x.tick(2);
        due("held", x.flow(0, 1, 1, 1), 0);
        due("current", x.flow(0, 1, 1, 0), 1);
        due("kept", x.flow(0, 1, 1, 2), 0);
        due("sent by link 1", x.octet(1, 0, 3), 13);
        due("held", x.flow(0, 1, 3, 1), 2);
        x.tick(1);
        due("held", x.flow(0, 1, 3, 1), 0);
        due("kind", x.circuit(1, 0, 1, 3), 1);
        // Link 0 fails and comes back: flows 0 and 2 return to it, it is their first changeback.
        x.activate(0, false);
        x.tick(12);
        due("current", x.flow(0, 1, 0, 0), 1);
        x.activate(0, true);
        x.tick(11);
        due("held", x.flow(0, 1, 0, 1), 2);
        due("held", x.flow(0, 1, 1, 1), 0);
        due("its count", x.octet(1, 0, 9), 1);
        // The link on which they still are fails: the changeback ends, it is a changeover.
        x.activate(1, false);
        due("held", x.flow(0, 1, 0, 1), 1);
        due("changeover", x.flow(0, 1, 0, 3), 1);
        x.tick(4);
        due("current", x.flow(0, 1, 0, 0), 0);
        due("held", x.flow(0, 1, 0, 1), 0);
        due("lost", x.counted(1), 0);
    }

    private static void flowKeepsSixtyFour() {
        about = "15 flow: 64 are kept";
        SignalNetwork x = pair(1);
        x.activate(0, false);
        int lost = x.counted(1);
        for (int i = 0; i < 70; i++) {
            x.block(0, 1, 2, i % 2 == 0);
        }
        due("kept", x.flow(0, 1, 2, 2), 64);
        due("kept", x.flow(0, 1, 0, 2), 0);
        due("lost", x.counted(1) - lost, 6);
        x.tick(10);
        // The changeover is out, no link is left, no other way: all are LOST.
        due("kept", x.flow(0, 1, 2, 2), 0);
        due("lost", x.counted(1) - lost, 70);
        x.block(0, 1, 2, true);
        due("lost", x.counted(1) - lost, 71);
    }

    // ---------------------------------------------------------------- 16 next

    private static void nextTold() {
        about = "16 next";
        SignalNetwork x = triangle();
        due("next(0, 1, 0)", x.next(0, 1, 0), 1);
        due("next(0, 2, 0)", x.next(0, 2, 0), 2);
        due("next(0, 3, 0)", x.next(0, 3, 0), NONE);
        due("next(0, 0, 0)", x.next(0, 0, 0), NONE);
        due("next(6, 0, 0)", x.next(6, 0, 0), NONE);
        due("next(0, -1, 0)", x.next(0, -1, 0), NONE);
        // At 0, 2 was told that 1 can be reached by 0; of 2 itself nothing.
        due("next(0, 1, 22)", x.next(0, 1, 22), 0);
        due("next(0, 2, 22)", x.next(0, 2, 22), NONE);
        due("next(0, 3, 22)", x.next(0, 3, 22), 1);
        due("next(0, 3, 12)", x.next(0, 3, 12), 1);
        due("next(0, 1, 12)", x.next(0, 1, 12), 0);
        due("next(0, 1, 11)", x.next(0, 1, 11), 0);
        due("next(0, 1, 13)", x.next(0, 1, 13), NONE);
        due("next(0, 1, 10)", x.next(0, 1, 10), NONE);
        for (int what : new int[] {-1, 1, 2, 9, 16, 19, 26, 30, 32, 100, -10, -12, Integer.MIN_VALUE}) {
            due("next(0, 1, " + what + ")", x.next(0, 1, what), NONE);
        }
        x.activate(0, false);
        due("still held", x.next(0, 1, 0), 1);
        x.tick(6);
        // The OVERs went by 2: now 1 is reached by 2, which is told that it isn't reached by 0.
        due("next(0, 1, 0)", x.next(0, 1, 0), 2);
        due("next(0, 1, 22)", x.next(0, 1, 22), 1);
        due("next(2, 1, 10)", x.next(2, 1, 10), 1);
        due("next(2, 1, 0)", x.next(2, 1, 0), 1);
        due("next(2, 0, 11)", x.next(2, 0, 11), 1);
        x.activate(1, false);
        x.tick(11);
        // 1 is cut off: 2 says so to 0.
        due("next(2, 1, 0)", x.next(2, 1, 0), NONE);
        due("next(2, 1, 20)", x.next(2, 1, 20), 1);
        x.tick(2);
        due("next(0, 1, 12)", x.next(0, 1, 12), 1);
        due("next(0, 1, 0)", x.next(0, 1, 0), NONE);
        // When the link comes back all is told anew.
        x.activate(0, true);
        x.tick(20);
        due("next(0, 1, 0)", x.next(0, 1, 0), 1);
        due("next(2, 1, 0)", x.next(2, 1, 0), 0);
        due("next(0, 1, 22)", x.next(0, 1, 22), 0);
        due("next(2, 1, 10)", x.next(2, 1, 10), 0);
        due("next(2, 1, 20)", x.next(2, 1, 20), 1);
    }

    // ---------------------------------------------------------------- 17 circuit

    private static void circuitGlare() {
        about = "17 circuit: both ends ask at once";
        SignalNetwork x = pair(1);
        due("dial(0, 10)", x.dial(0, 10), true);
        due("dial(11, 1)", x.dial(11, 1), true);
        due("both", x.circuit(0, 1, 0, 0) + x.circuit(1, 0, 0, 0), 2);
        x.tick(2);
        // Circuit 0 is controlled by 1: 0 yields, and asks anew on circuit 1.
        due("state", x.circuit(0, 1, 0, 0), 5);
        due("leg", x.circuit(0, 1, 0, 4), 1);
        due("connected for", x.circuit(0, 1, 0, 5), 1);
        due("timer", x.circuit(0, 1, 0, 1), 0);
        due("ringing", x.subscriber(1, 0), 3);
        due("state", x.circuit(1, 0, 0, 0), 1);
        due("state", x.circuit(0, 1, 1, 0), 1);
        due("leg", x.subscriber(0, 1), 111);
        due("wanted", x.circuit(0, 1, 1, 5), 10);
        due("timer", x.circuit(0, 1, 1, 1), 19);
        x.tick(2);
        due("hearing", x.subscriber(11, 0), 2);
        due("ringing", x.subscriber(10, 0), 3);
        x.tick(1);
        due("hearing", x.subscriber(0, 0), 2);
        // Circuits 2: 1 controls; 3: 0 controls.
        x.dial(2, 12);
        x.dial(13, 3);
        x.tick(2);
        due("leg", x.subscriber(2, 1), 113);
        x.tick(3);
        x.hang(2);
        x.hang(13);
        x.tick(10);
        x.block(0, 1, 2, true);
        x.tick(2);
        x.dial(2, 12);
        x.dial(13, 3);
        due("both", x.circuit(0, 1, 3, 0) + x.circuit(1, 0, 3, 0), 2);
        x.tick(2);
        due("0 goes on", x.circuit(0, 1, 3, 0), 1);
        due("1 yields", x.circuit(1, 0, 3, 0), 5);
        due("no circuit is left", x.subscriber(13, 0), 5);
        due("circuit(0, 1, 0, 8)", x.circuit(0, 1, 0, 8), NONE);
        due("circuit(0, 1, 0, -1)", x.circuit(0, 1, 0, -1), NONE);
        due("circuit(0, 1, 4, 0)", x.circuit(0, 1, 4, 0), NONE);
        due("circuit(0, 2, 0, 0)", x.circuit(0, 2, 0, 0), NONE);
    }

    private static void circuitStaleCount() {
        about = "17 circuit: counts tell calls apart";
        SignalNetwork x = pair(1);
        for (int i = 1; i <= 66; i++) {
            x.dial(0, 10);
            due("count", x.circuit(0, 1, 0, 6), i % 64);
            x.hang(0);
            x.tick(4);
            due("idle", x.circuit(0, 1, 0, 0), 0);
            due("count there", x.circuit(1, 0, 0, 6), i % 64);
            due("called", x.subscriber(10, 0), 0);
        }
        // The way from 1 is missing for a while: what 1 answers is LOST, and RELEASE goes again.
        SignalNetwork y = pair(1);
        y.dial(0, 10);
        y.tick(1);
        y.route(1, 0, NONE, NONE);
        y.tick(19);
        due("asked in vain", y.circuit(0, 1, 0, 0), 7);
        due("there", y.circuit(1, 0, 0, 0), 5);
        y.tick(1);
        due("there", y.circuit(1, 0, 0, 0), 0);
        due("ringing no more", y.subscriber(10, 0), 0);
        due("but RELEASED was lost", y.circuit(0, 1, 0, 0), 7);
        y.route(1, 0, 0, NONE);
        y.tick(10);
        due("idle", y.circuit(0, 1, 0, 0), 0);
    }

    // ---------------------------------------------------------------- 18 subscriber

    private static void subscriberStates() {
        about = "18 subscriber";
        SignalNetwork x = pair(1);
        for (int odd : ODD) {
            if (odd != 10) {
                due("subscriber(odd, 0)", x.subscriber(odd, 0), NONE);
            }
            due("subscriber(0, odd)", x.subscriber(0, odd), NONE);
        }
        due("subscriber(4, 0)", x.subscriber(4, 0), NONE);
        due("subscriber(53, 0)", x.subscriber(53, 0), 0);
        due("subscriber(0, 3)", x.subscriber(0, 3), NONE);
        x.dial(0, 13);
        due("calling", x.subscriber(0, 0), 1);
        due("leg", x.subscriber(0, 1), 110);
        x.tick(2);
        due("ringing", x.subscriber(13, 0), 3);
        due("leg", x.subscriber(13, 1), 100);
        x.tick(1);
        due("hearing", x.subscriber(0, 0), 2);
        due("talks", x.subscriber(0, 2), NONE);
        x.answer(13);
        due("talking", x.subscriber(13, 0), 4);
        due("talks", x.subscriber(13, 2), NONE);
        x.tick(2);
        due("talking", x.subscriber(0, 0), 4);
        due("talks", x.subscriber(13, 2), 0);
        due("talks", x.subscriber(0, 2), 13);
        x.hang(0);
        due("idle", x.subscriber(0, 0), 0);
        due("talks", x.subscriber(13, 2), NONE);
        due("talking", x.subscriber(13, 0), 4);
        x.tick(2);
        due("ended", x.subscriber(13, 0), 5);
        due("leg", x.subscriber(13, 1), NONE);
    }

    // ---------------------------------------------------------------- 19 counted

    private static void countedLost() {
        about = "19 counted";
        SignalNetwork x = pair(1);
        due("ticks", x.counted(0), 60);
        due("lost", x.counted(1), 0);
        due("done", x.counted(2), 8);
        due("kind", x.counted(3), 5);
        due("counted(4)", x.counted(4), NONE);
        due("counted(-1)", x.counted(-1), NONE);
        x.route(0, 1, NONE, NONE);
        x.block(0, 1, 0, true);
        due("lost", x.counted(1), 1);
        due("blocked here", x.circuit(0, 1, 0, 2), 1);
        x.tick(3);
        due("done", x.counted(2), 8);
        due("blocked there", x.circuit(1, 0, 0, 3), 0);
        x.block(1, 0, 0, true);
        x.tick(2);
        due("done", x.counted(2), 9);
        due("kind", x.counted(3), 13);
    }

    private static void countedHops() {
        about = "19 counted: the eighth hop";
        SignalNetwork x = new SignalNetwork();
        for (int i = 0; i < 4; i++) {
            x.link(i, (i + 1) % 4);
        }
        x.link(0, 4);
        for (int i = 0; i < 5; i++) {
            x.activate(i, true);
        }
        x.tick(60);
        // For 4 each asks the next in the ring, which 0 closes when all believe that there is a way.
        int[][] told = {{0, 4}, {3, 0}, {2, 3}, {1, 2}, {0, 1}};
        for (int[] way : told) {
            due("route", x.route(way[0], 4, way[1], NONE), true);
            x.tick(5);
        }
        due("next(0, 4, 0)", x.next(0, 4, 0), 1);
        due("next(3, 4, 0)", x.next(3, 4, 0), 0);
        int lost = x.counted(1);
        int done = x.counted(2);
        x.block(0, 4, 0, true);
        x.tick(8);
        due("not lost yet", x.counted(1), lost);
        // In the second round, from 3 on to 0, it has seven hops.
        due("hops", x.octet(3, 1, 10), 7);
        x.tick(1);
        due("lost", x.counted(1), lost + 1);
        due("done", x.counted(2), done);
    }

    // ---------------------------------------------------------------- changeovers

    private static void changeoverOut() {
        about = "changeover without an answer";
        SignalNetwork x = pair(1);
        x.block(0, 1, 0, true);
        x.block(0, 1, 1, true);
        x.tick(1);
        x.activate(0, false);
        due("lost", x.counted(1), 2);
        due("not acknowledged", x.end(0, 0, 6), 1);
        due("waiting", x.end(0, 0, 7), 1);
        x.tick(9);
        due("not acknowledged", x.end(0, 0, 6), 1);
        x.tick(1);
        due("not acknowledged", x.end(0, 0, 6), 0);
        due("waiting", x.end(0, 0, 7), 0);
        due("lost", x.counted(1), 4);
    }

    private static void changeoverByOthers() {
        about = "changeover by another exchange";
        SignalNetwork x = triangle();
        x.block(0, 1, 0, true);
        x.block(0, 1, 1, true);
        x.block(0, 1, 2, true);
        x.tick(2);
        // The first was taken, the second is on the line, the third waits.
        x.activate(0, false);
        due("not acknowledged", x.end(0, 0, 6), 2);
        due("waiting", x.end(0, 0, 7), 1);
        due("held", x.flow(0, 1, 0, 1), 1);
        x.tick(3);
        due("held", x.flow(0, 1, 0, 1), 0);
        due("current", x.flow(0, 1, 0, 0), NONE);
        due("nothing is left", x.end(0, 0, 6) + x.end(0, 0, 7), 0);
        x.tick(8);
        for (int c = 0; c < 3; c++) {
            due("blocked there", x.circuit(1, 0, c, 3), 1);
        }
        due("lost", x.counted(1), 0);
    }

    private static void changeoverBecauseOfOver() {
        about = "changeover: an OVER makes the other end fail";
        SignalNetwork x = pair(2);
        for (int i = 0; i < 10 && x.end(1, 0, 0) == 5; i++) {
            x.damage(1, 0, 1);
            x.tick(1);
        }
        due("failed", x.end(1, 0, 0), 0);
        due("not yet", x.end(1, 1, 0), 5);
        due("OVER", x.octet(0, 0, 3), 1);
        due("of link 1 in its first life", x.octet(0, 0, 8), 17);
        due("held", x.flow(0, 1, 1, 1), 1);
        x.tick(1);
        due("failed", x.end(1, 1, 0), 0);
        due("OVERED, and no OVER", x.octet(0, 1, 3), 2);
        due("nothing more", x.end(0, 1, 7), 0);
        due("done here", x.flow(1, 0, 1, 1), 0);
        due("current", x.flow(1, 0, 1, 0), 0);
        due("held", x.flow(0, 1, 1, 1), 1);
        x.tick(1);
        due("held", x.flow(0, 1, 1, 1), 0);
        due("current", x.flow(0, 1, 1, 0), 0);
        due("kind", x.counted(3), 2);
        due("lost", x.counted(1), 0);
    }

    private static void changebackAgain() {
        about = "changeback: the BACK goes again";
        SignalNetwork x = pair(1);
        x.link(0, 1);
        x.activate(1, true);
        x.tick(10);
        for (int i = 0; i < 50; i++) {
            x.block(0, 1, 0, i % 2 == 0);
        }
        x.tick(1);
        // 50 and the BACK of flows 1 and 3, but the first that went.
        due("held", x.flow(0, 1, 1, 1), 2);
        due("waiting", x.end(0, 0, 7), 51);
        // Two BACKED came in, for the changebacks that exchange 1 began.
        x.tick(18);
        due("waiting", x.end(0, 0, 7), 35);
        x.tick(1);
        due("waiting", x.end(0, 0, 7), 36);
        due("held", x.flow(0, 1, 1, 1), 2);
        x.tick(31);
        due("the first BACK", x.octet(0, 0, 3), 3);
        due("its flow", x.octet(0, 0, 8), 1);
        x.tick(2);
        due("held", x.flow(0, 1, 1, 1), 0);
        due("current", x.flow(0, 1, 1, 0), 1);
        // Behind it that of flow 3, two BACKED, and twice two BACK and two BACKED more: exchange 1
        // waits in vain for as long.
        x.tick(7);
        due("the last BACK", x.octet(0, 0, 3), 3);
        due("its flow", x.octet(0, 0, 8), 3);
        due("its count", x.octet(0, 0, 9), 1);
        due("waiting", x.end(0, 0, 7), 2);
        x.tick(2);
        due("kind", x.counted(3), 4);
        due("held", x.flow(0, 1, 1, 1), 0);
    }

    private static void readyTooLong() {
        about = "READY, and the other end goes on proving";
        SignalNetwork x = pair(1);
        x.link(0, 1);
        x.activate(1, true);
        x.tick(8);
        for (int i = 0; i < 3; i++) {
            x.damage(1, 1, 2);
            x.tick(2);
            due("round", x.end(1, 1, 9), i + 2);
            due("timer", x.end(1, 1, 1), 7);
            if (i < 2) {
                x.tick(4);
            }
        }
        due("ready", x.end(1, 0, 0), 4);
        x.tick(2);
        due("timer", x.end(1, 0, 1), 1);
        x.tick(1);
        due("out", x.end(1, 0, 0), 0);
        due("proving", x.end(1, 1, 0), 3);
        x.tick(1);
        due("a STOP came", x.end(1, 1, 0), 0);
    }

    private static void completeWhenIdle() {
        about = "17 circuit: COMPLETE comes behind RELEASED";
        SignalNetwork x = triangle();
        x.route(1, 0, 2, NONE);
        x.tick(5);
        x.dial(0, 10);
        x.hang(0);
        x.tick(2);
        x.route(1, 0, 0, NONE);
        x.tick(2);
        due("resets", x.circuit(0, 1, 0, 0), 8);
        due("timer", x.circuit(0, 1, 0, 1), 29);
        due("count", x.circuit(0, 1, 0, 6), 1);
        due("a RESET", x.octet(0, 0, 3), 12);
        due("its circuit, and 4 times the count", x.octet(0, 0, 8), 4);
        x.tick(2);
        due("idle", x.circuit(0, 1, 0, 0), 0);
        due("kind", x.counted(3), 11);
    }

    private static void completeOfAnotherCount() {
        about = "17 circuit: COMPLETE of an earlier call";
        SignalNetwork x = triangle();
        x.route(1, 0, 2, NONE);
        x.route(0, 2, 2, NONE);
        x.tick(10);
        x.dial(0, 10);
        x.hang(0);
        x.tick(2);
        // COMPLETE goes to 2, which keeps it: its link to 0 fails, and no OVER comes from there.
        x.activate(2, false);
        x.route(1, 0, 0, NONE);
        x.tick(1);
        due("kept", x.flow(2, 0, 0, 2), 1);
        x.tick(1);
        due("idle", x.circuit(0, 1, 0, 0), 0);
        due("count", x.circuit(0, 1, 0, 6), 1);
        x.dial(10, 0);
        due("count", x.circuit(1, 0, 0, 6), 2);
        x.tick(1);
        x.hang(10);
        x.tick(5);
        due("idle", x.circuit(0, 1, 0, 0), 0);
        due("count", x.circuit(0, 1, 0, 6), 2);
        for (int i = 0; i < 20 && x.circuit(0, 1, 0, 0) == 0; i++) {
            x.tick(1);
        }
        due("resets", x.circuit(0, 1, 0, 0), 8);
        due("count", x.circuit(0, 1, 0, 6), 1);
        x.tick(5);
        due("idle", x.circuit(0, 1, 0, 0), 0);
        due("there", x.circuit(1, 0, 0, 0) + x.circuit(1, 0, 0, 6), 2);
    }

    private static void urgentAtOneEnd() {
        about = "12 end: urgent at one end";
        SignalNetwork x = pair(1);
        x.link(0, 1);
        for (int i = 0; i < 10 && x.end(0, 1, 0) == 5; i++) {
            x.damage(0, 1, 1);
            x.tick(1);
        }
        due("still in service at 0", x.end(0, 0, 0), 5);
        x.activate(1, true);
        due("urgent", x.end(1, 0, 10), 0);
        due("urgent", x.end(1, 1, 10), 1);
        x.tick(2);
        due("PROVE", x.octet(1, 0, 3), 2 + 4);
        due("PROVE", x.octet(1, 1, 3), 3 + 4);
        x.tick(1);
        due("proving of 3", x.end(1, 0, 1), 2);
        due("proving of 3", x.end(1, 1, 1), 2);
    }

    private static void readyAnew() {
        about = "12 end: READY anew";
        SignalNetwork x = pair(1);
        x.block(0, 1, 0, true);
        x.tick(10);
        due("sent", x.end(0, 0, 2), 4);
        x.block(0, 1, 1, true);
        x.tick(1);
        x.damage(0, 1, 1);
        x.tick(4);
        due("forward", x.end(0, 0, 4), 0);
        due("credit", x.end(0, 1, 8), 1);
        x.activate(0, false);
        x.tick(15);
        due("sent stays", x.end(0, 0, 2), 5);
        due("forward stays", x.end(0, 0, 4), 0);
        due("credit stays", x.end(0, 1, 8), 1);
        int done = x.counted(2);
        x.activate(0, true);
        x.tick(4);
        due("sent stays", x.end(0, 0, 2), 5);
        x.tick(1);
        for (int side = 0; side < 2; side++) {
            int[] anew = {4, 15, 127, 127, 1, 1, 0, 0, 0, 1, 1, 0, 0, 0, 2, 2};
            for (int what = 0; what < 16; what++) {
                due("end(0, " + side + ", " + what + ")", x.end(0, side, what), anew[what]);
            }
        }
        x.tick(1);
        // No flow was open: all is told anew, four CLOSED each way.
        due("next(0, 2, 21)", x.next(0, 2, 21), 1);
        x.tick(8);
        due("done", x.counted(2), done + 8);
        // The 15th unit since READY is the one in tick 15 behind it.
        x.damage(0, 0, 1);
        x.tick(1);
        due("credit", x.end(0, 0, 8), 1);
        x.tick(5);
        due("credit", x.end(0, 0, 8), 1);
        x.tick(1);
        due("credit", x.end(0, 0, 8), 0);
    }

    private static void overIsLostWhenFull() {
        about = "19 counted: an OVER is the 65th";
        SignalNetwork x = pair(2);
        for (int i = 0; i < 64; i++) {
            x.block(0, 1, 0, i % 2 == 0);
        }
        due("waiting", x.end(0, 0, 7), 64);
        due("lost", x.counted(1), 0);
        x.activate(1, false);
        due("waiting", x.end(0, 0, 7), 64);
        due("waiting", x.end(0, 1, 7), 1);
        due("lost", x.counted(1), 1);
    }

    // ---------------------------------------------------------------- wrong arguments everywhere

    private static void wrongArguments() {
        about = "wrong arguments";
        int[] all = {Integer.MIN_VALUE, -101, -11, -2, 6, 11, 64, 1 << 30, Integer.MAX_VALUE};
        for (int a : all) {
            SignalNetwork x = triangle();
            int before = x.counted(1) + 1000 * x.counted(2);
            for (int b : all) {
                due("link", x.link(a, b), NONE);
                due("route", x.route(a, b, a, b), false);
                due("damage", x.damage(a, b, 1), false);
                due("block", x.block(a, b, 0, true), false);
                due("end", x.end(a, b, 0), NONE);
                due("octet", x.octet(a, b, 0), NONE);
                due("octet", x.octet(0, 0, a < 0 ? a : a + 20), NONE);
                due("bits", x.bits(a, b), NONE);
                due("flow", x.flow(a, b, 0, 0), NONE);
                due("flow", x.flow(0, 1, a, b), NONE);
                due("next", x.next(a, b, 0), NONE);
                due("circuit", x.circuit(a, b, 0, 0), NONE);
                due("circuit", x.circuit(0, 1, a, b), NONE);
            }
            due("activate", x.activate(a, true), false);
            due("cut", x.cut(a, true), false);
            due("counted", x.counted(a), NONE);
            due("nothing happened", x.counted(1) + 1000 * x.counted(2), before);
        }
    }
}
