/** The boundary cases that the promises themselves name: one test for each sentence. */
public final class FaceBoundaryTest extends Boundaries {
    public static void main(String[] args) {
        fiveHundredAndTwelveCalls();
        newObjectIsEmpty();
        linkOfNoSuchTwo();
        linkTheEleventh();
        linkTheFifthOfASet();
        routeNone();
        routeRefused();
        routeByNoNeighbour();
        activateStartsEndsWithoutTimer();
        activateFailsEndsThatAreNotOut();
        activateRefused();
        cutRefused();
        damageFrom0To100();
        damageToldBefore();
        damageRefused();
        tickFrom0To200();
        tickRefused();
        dialRefused();
        answerRefused();
        hangEnded();
        hangRefused();
        blockRefused();
        endTimersNone();
        endAtFirst();
        endRefused();
        endWhatStays();
        endRepeatsNotWhenFailed();
        octetHowManyFollow();
        octetOfStates();
        octetOfLives();
        octetsOfLabel();
        octetLowestBits();
        octetCheck();
        octetRefused();
        bitsCountedAnew();
        bitsRefused();
        flowRefused();
        flowChangeoverNone();
        nextRefused();
        nextOfItself();
        nextNothingTold();
        circuitRefused();
        circuitNoneWhenIdle();
        circuitTimerOfSeven();
        subscriberRefused();
        subscriberTalksWithNobody();
        countedRefused();
        countedNoKind();
        countedSecondNumbers();
        finish("boundaries of the promises");
    }

    private static void fiveHundredAndTwelveCalls() {
        sentence("What it is", "An object is used for at most 512 calls after it has been made");
        Net n = new Net();
        for (int i = 1; i < Net.MOST_CALLS; i++) {
            due(n.tick(i == 1 ? 200 : 1), 199 + i);
        }
        due(n.tick(200), 199 + 511 + 200);
        // What later calls answer is free, but LANGUAGE.md wants them to answer.
        SignalNetwork x = new SignalNetwork();
        x.link(0, 1);
        x.activate(0, true);
        for (int i = 0; i < 600; i++) {
            x.block(0, 1, 0, i % 2 == 0);
            x.tick(i % 3);
        }
    }

    // ---------------------------------------------------------------- 1 a new object

    private static void newObjectIsEmpty() {
        sentence("Promise 1", "No links, no routes, all subscribers and circuits idle.");
        for (String line : new Net().everything(0)) {
            boolean counts = line.startsWith("counted");
            boolean isState = line.startsWith("subscriber") && line.contains(", 0]");
            boolean isOne = isState && line.matches("subscriber.[0-5]?[0-3], .*");
            latestCall = line;
            due(Integer.parseInt(line.substring(line.indexOf("= ") + 2)), counts || isOne ? 0 : NONE);
        }
        Net n = new Net();
        n.link(0, 1);
        for (int c = 0; c < 4; c++) {
            due(n.circuit(0, 1, c, 0), 0);
            due(n.circuit(1, 0, c, 0), 0);
        }
        n.activate(0, true);
        n.tick(10);
        // No routes: not even to a neighbour, nor to or by exchange 0.
        for (int d = 0; d < 6; d++) {
            due(n.next(0, d, 0), NONE);
            due(n.next(1, d, 0), NONE);
        }
        due(n.dial(10, 0), true);
        due(n.subscriber(10, 0), 5);
        due(n.block(1, 0, 0, true), true);
        due(n.counted(LOST), 1);
    }

    // ---------------------------------------------------------------- 2 link

    private static void linkOfNoSuchTwo() {
        sentence("Promise 2", "NONE: no such two (one and the same is none such)");
        Net n = new Net();
        for (int x = 0; x < 6; x++) {
            due(n.link(x, x), NONE);
        }
        for (int odd : ODD) {
            due(n.link(odd, 0), NONE);
            due(n.link(5, odd), NONE);
            due(n.link(odd, odd), NONE);
        }
        due(n.link(-1, 0), NONE);
        due(n.link(0, -1), NONE);
        due(n.link(6, 5), NONE);
        due(n.link(5, 6), NONE);
        dueAlike(n, new Net());
        due(n.link(0, 5), 0);
        due(n.link(5, 4), 1);
    }

    private static void linkTheEleventh() {
        sentence("Promise 2", "ten links");
        Net n = new Net();
        for (int i = 0; i < 10; i++) {
            due(n.link(i % 5, i % 5 + 1), i);
        }
        due(n.link(0, 2), NONE);
        due(n.link(0, 1), NONE);
        due(n.circuit(0, 2, 0, 0), NONE);
        due(n.flow(0, 2, 0, 1), NONE);
        due(n.end(9, 1, STATE), OUT);
        due(n.end(10, 0, STATE), NONE);
        due(n.activate(10, true), false);
        due(n.activate(9, true), true);
    }

    private static void linkTheFifthOfASet() {
        sentence("Promise 2", "or four between them");
        Net n = new Net();
        for (int i = 0; i < 4; i++) {
            due(i % 2 == 0 ? n.link(2, 3) : n.link(3, 2), i);
        }
        due(n.link(2, 3), NONE);
        due(n.link(3, 2), NONE);
        due(n.end(4, 0, STATE), NONE);
        // Those that were refused count neither among the ten nor in another set.
        for (int i = 4; i < 8; i++) {
            due(n.link(2, 4), i);
        }
        due(n.link(4, 2), NONE);
        due(n.link(3, 4), 8);
        due(n.link(3, 4), 9);
        due(n.link(3, 4), NONE);
    }

    // ---------------------------------------------------------------- 3 route

    private static void routeNone() {
        sentence("Promise 3", "first and second (NONE: none)");
        Net n = triangle();
        due(n.next(0, 1, 0), 1);
        due(n.route(0, 1, NONE, 1), true);
        due(n.next(0, 1, 0), 1);
        due(n.route(0, 1, NONE, 2), true);
        due(n.next(0, 1, 0), 2);
        due(n.route(0, 1, NONE, NONE), true);
        due(n.next(0, 1, 0), NONE);
        due(n.route(0, 1, 2, NONE), true);
        due(n.next(0, 1, 0), 2);
    }

    private static void routeRefused() {
        sentence("Promise 3", "False, and nothing: no such two, or one that is neither NONE nor an exchange other "
            + "than x, or both the same exchange.");
        Net n = triangle();
        for (int odd : ODD) {
            due(n.route(odd, 1, 2, NONE), false);
            due(n.route(0, odd, 2, NONE), false);
            due(n.route(0, 1, odd, 2), false);
            due(n.route(0, 1, 2, odd), false);
        }
        due(n.route(-1, 1, 2, NONE), false);
        due(n.route(0, -1, 2, NONE), false);
        due(n.route(6, 1, 2, NONE), false);
        due(n.route(0, 6, 2, NONE), false);
        due(n.route(0, 1, 6, 2), false);
        due(n.route(0, 1, 2, 6), false);
        due(n.route(0, 0, 2, NONE), false);
        due(n.route(0, 1, 0, 2), false);
        due(n.route(0, 1, 2, 0), false);
        due(n.route(0, 1, 2, 2), false);
        due(n.route(0, 1, 3, 3), false);
        dueAlike(n, triangle());
        // d itself and exchanges without any link may be told, and 5 is the highest.
        due(n.route(0, 1, 1, 5), true);
        due(n.route(5, 0, 4, 3), true);
    }

    private static void routeByNoNeighbour() {
        sentence("Promise 3", "(Those that are no neighbours are as if they were not told.)");
        Net n = row(3);
        due(n.route(0, 2, 3, 1), true);
        due(n.next(0, 2, 0), 1);
        due(n.route(0, 2, 2, 3), true);
        due(n.next(0, 2, 0), NONE);
        due(n.next(0, 2, 21), 1);
        // From the moment on that they are neighbours they count; without a link in service not yet.
        due(n.link(0, 2), 2);
        due(n.next(0, 2, 0), NONE);
        due(n.dial(0, 20), true);
        due(n.subscriber(0, 1), 120);
        n.activate(2, true);
        n.tick(6);
        due(n.next(0, 2, 0), 2);
    }

    // ---------------------------------------------------------------- 4 activate

    private static void activateStartsEndsWithoutTimer() {
        sentence("Promise 4", "its ends that are OUT without a timer start");
        Net n = pair(1);
        n.activate(0, false);
        n.tick(11);
        due(n.end(0, 0, TIMER), 1);
        due(n.activate(0, true), true);
        due(n.end(0, 0, STATE), OUT);
        due(n.end(0, 0, TIMER), 1);
        n.activate(0, false);
        n.tick(1);
        due(n.end(0, 0, STATE), OUT);
        due(n.end(0, 0, TIMER), 0);
        due(n.activate(0, true), true);
        due(n.end(0, 0, STATE), SEEKING);
        due(n.end(0, 0, TIMER), 30);
        due(n.end(0, 1, STATE), SEEKING);
        // One end with a timer, one without: side 0 failed in tick 6, side 1 in tick 7 by a STOP.
        Net m = still(1);
        m.activate(0, true);
        m.tick(3);
        m.damage(0, 0, 4);
        m.tick(4);
        due(m.end(0, 0, STATE), OUT);
        due(m.end(0, 0, TIMER), 11);
        m.tick(1);
        due(m.end(0, 1, STATE), OUT);
        due(m.end(0, 1, TIMER), 11);
        m.activate(0, false);
        m.tick(10);
        due(m.end(0, 0, TIMER), 0);
        due(m.end(0, 1, TIMER), 1);
        m.activate(0, true);
        due(m.end(0, 0, STATE), SEEKING);
        due(m.end(0, 1, STATE), OUT);
        due(m.end(0, 1, TIMER), 1);
    }

    private static void activateFailsEndsThatAreNotOut() {
        sentence("Promise 4", "or it is active no more: its ends that are not OUT fail");
        Net n = still(1);
        n.activate(0, true);
        due(n.activate(0, false), true);
        due(n.end(0, 0, STATE), OUT);
        due(n.end(0, 1, STATE), OUT);
        due(n.end(0, 0, TIMER), 12);
        n.tick(5);
        due(n.activate(0, true), true);
        // An end that is OUT doesn't fail once more: its timer goes on.
        due(n.activate(0, false), true);
        due(n.end(0, 0, TIMER), 7);
        due(n.end(0, 1, TIMER), 7);
        n.tick(7);
        due(n.end(0, 0, STATE), OUT);
        due(n.end(0, 0, TIMER), 0);
        due(n.end(0, 0, LIFE), 1);
    }

    private static void activateRefused() {
        sentence("Promise 4", "False: there is none such, or it is so already.");
        Net n = pair(1);
        for (int odd : ODD) {
            due(n.activate(odd, true), false);
            due(n.activate(odd, false), false);
        }
        due(n.activate(-1, false), false);
        due(n.activate(1, true), false);
        due(n.activate(0, true), false);
        dueAlike(n, pair(1));
        Net m = still(1);
        due(m.activate(0, false), false);
        dueAlike(m, still(1));
        m.activate(0, true);
        m.activate(0, false);
        due(m.activate(0, false), false);
    }

    // ---------------------------------------------------------------- 5 cut

    private static void cutRefused() {
        sentence("Promise 5", "False: there is none such.");
        Net n = pair(1);
        for (int odd : ODD) {
            due(n.cut(odd, true), false);
        }
        due(n.cut(-1, true), false);
        due(n.cut(1, true), false);
        due(n.cut(1, false), false);
        dueAlike(n, pair(1));
        // Of one that there is it is true, also if it is so already.
        due(n.cut(0, false), true);
        dueAlike(n, pair(1));
        due(n.cut(0, true), true);
        due(n.cut(0, true), true);
        n.tick(1);
        due(n.end(0, 0, CREDIT), 1);
        due(n.end(0, 1, CREDIT), 1);
        due(n.cut(0, false), true);
        n.tick(5);
        due(n.end(0, 0, CREDIT), 1);
        due(new Net().cut(0, true), false);
    }

    // ---------------------------------------------------------------- 6 damage

    private static void damageFrom0To100() {
        sentence("Promise 6", "So many units (0 to 100) that arrive at an end are BAD from now on");
        Net n = still(1);
        due(n.damage(0, 0, 100), true);
        due(n.end(0, 0, DAMAGED), 100);
        n.tick(99);
        due(n.end(0, 0, DAMAGED), 1);
        n.tick(1);
        due(n.end(0, 0, DAMAGED), 0);
        n.tick(1);
        due(n.end(0, 0, DAMAGED), 0);
        due(n.damage(0, 1, 0), true);
        due(n.end(0, 1, DAMAGED), 0);
        Net m = pair(1);
        due(m.damage(0, 1, 2), true);
        m.tick(1);
        due(m.end(0, 1, CREDIT), 1);
        m.tick(2);
        due(m.end(0, 1, CREDIT), 2);
        due(m.end(0, 0, CREDIT), 0);
        due(m.damage(0, 0, 0), true);
        m.tick(1);
        due(m.end(0, 0, CREDIT), 0);
    }

    private static void damageToldBefore() {
        sentence("Promise 6", "(what was told before counts no more)");
        Net n = pair(1);
        due(n.damage(0, 0, 100), true);
        due(n.damage(0, 0, 1), true);
        due(n.end(0, 0, DAMAGED), 1);
        n.tick(3);
        due(n.end(0, 0, CREDIT), 1);
        n.damage(0, 0, 100);
        due(n.damage(0, 0, 0), true);
        n.tick(3);
        due(n.end(0, 0, CREDIT), 1);
        n.damage(0, 0, 1);
        due(n.damage(0, 0, 2), true);
        due(n.end(0, 0, DAMAGED), 2);
    }

    private static void damageRefused() {
        sentence("Promise 6", "False: there is none such, or another number.");
        Net n = pair(1);
        due(n.damage(0, 0, 3), true);
        for (int odd : ODD) {
            due(n.damage(odd, 0, 1), false);
            due(n.damage(0, odd, 1), false);
        }
        due(n.damage(0, -1, 1), false);
        due(n.damage(0, 2, 1), false);
        due(n.damage(-1, 0, 1), false);
        due(n.damage(1, 0, 1), false);
        due(n.damage(0, 0, -1), false);
        due(n.damage(0, 0, 101), false);
        due(n.damage(0, 0, Integer.MIN_VALUE), false);
        due(n.damage(0, 0, Integer.MAX_VALUE), false);
        Net plain = pair(1);
        plain.damage(0, 0, 3);
        dueAlike(n, plain);
    }

    // ---------------------------------------------------------------- 7 tick

    private static void tickFrom0To200() {
        sentence("Promise 7", "n TICKS (0 to 200): how many there were in all.");
        Net n = pair(1);
        due(n.tick(0), 60);
        dueAlike(n, pair(1));
        due(n.tick(200), 260);
        due(n.tick(1), 261);
        due(n.counted(0), 261);
        due(new Net().tick(0), 0);
        due(new Net().tick(200), 200);
    }

    private static void tickRefused() {
        sentence("Promise 7", "NONE, and nothing, for another n.");
        Net n = pair(1);
        due(n.tick(-1), NONE);
        due(n.tick(201), NONE);
        due(n.tick(Integer.MIN_VALUE), NONE);
        due(n.tick(Integer.MAX_VALUE), NONE);
        due(n.counted(0), 60);
        dueAlike(n, pair(1));
    }

    // ---------------------------------------------------------------- 8 dial

    private static void dialRefused() {
        sentence("Promise 8", "False: it isn't idle, there is none such, there is no such number, or it is its own.");
        Net n = pair(1);
        for (int odd : new int[] {-1, -7, -10, 4, 9, 14, 54, 59, 60, 63, 100, Integer.MIN_VALUE, Integer.MAX_VALUE}) {
            due(n.dial(odd, 0), false);
            due(n.dial(0, odd), false);
        }
        due(n.dial(0, 0), false);
        due(n.dial(53, 53), false);
        dueAlike(n, pair(1));
        due(n.dial(3, 13), true);
        // Not idle: CALLING, HEARING, RINGING, TALKING, ENDED.
        due(n.dial(3, 0), false);
        n.tick(3);
        due(n.subscriber(3, 0), 2);
        due(n.dial(3, 0), false);
        due(n.dial(13, 0), false);
        n.answer(13);
        due(n.dial(13, 0), false);
        n.tick(2);
        due(n.dial(3, 0), false);
        n.hang(3);
        n.tick(2);
        due(n.subscriber(13, 0), 5);
        due(n.dial(13, 0), false);
        due(n.subscriber(0, 0), 0);
        // 53 is the highest number, and 0 the lowest.
        due(n.dial(53, 50), true);
        due(n.dial(0, 53), true);
    }

    // ---------------------------------------------------------------- 9 answer

    private static void answerRefused() {
        sentence("Promise 9", "False: it is not.");
        Net n = pair(1);
        for (int odd : new int[] {-1, 4, 54, 60, Integer.MIN_VALUE, Integer.MAX_VALUE}) {
            due(n.answer(odd), false);
        }
        due(n.answer(0), false);
        dueAlike(n, pair(1));
        n.dial(0, 10);
        due(n.answer(0), false);
        due(n.answer(10), false);
        n.tick(3);
        due(n.answer(0), false);
        due(n.subscriber(0, 0), 2);
        due(n.answer(10), true);
        due(n.answer(10), false);
        n.tick(2);
        due(n.answer(0), false);
        n.hang(0);
        n.tick(2);
        due(n.answer(10), false);
        due(n.subscriber(10, 0), 5);
    }

    // ---------------------------------------------------------------- 10 hang

    private static void hangEnded() {
        sentence("Promise 10", "an ENDED one is IDLE");
        Net n = new Net();
        due(n.dial(0, 10), true);
        due(n.subscriber(0, 0), 5);
        due(n.hang(0), true);
        due(n.subscriber(0, 0), 0);
        due(n.dial(0, 1), true);
        due(n.subscriber(1, 0), 3);
    }

    private static void hangRefused() {
        sentence("Promise 10", "False: it is another.");
        Net n = pair(1);
        for (int odd : new int[] {-1, 4, 54, 60, Integer.MIN_VALUE, Integer.MAX_VALUE}) {
            due(n.hang(odd), false);
        }
        due(n.hang(0), false);
        dueAlike(n, pair(1));
        n.dial(0, 10);
        n.tick(3);
        // IDLE and RINGING are the two that can't hang.
        due(n.hang(10), false);
        due(n.subscriber(10, 0), 3);
        due(n.subscriber(10, 1), 100);
        due(n.hang(1), false);
        due(n.hang(0), true);
        due(n.hang(0), false);
    }

    // ---------------------------------------------------------------- 11 block

    private static void blockRefused() {
        sentence("Promise 11", "False: there is none such, or it is so already.");
        Net n = pair(1);
        for (int odd : ODD) {
            due(n.block(odd, 1, 0, true), false);
            due(n.block(0, odd, 0, true), false);
            due(n.block(0, 1, odd, true), false);
        }
        due(n.block(0, 1, -1, true), false);
        due(n.block(0, 1, 4, true), false);
        due(n.block(-1, 1, 0, true), false);
        due(n.block(0, -1, 0, true), false);
        due(n.block(6, 0, 0, true), false);
        due(n.block(0, 6, 0, true), false);
        due(n.block(0, 0, 0, true), false);
        due(n.block(0, 2, 0, true), false);
        due(n.block(0, 1, 0, false), false);
        dueAlike(n, pair(1));
        Net m = triangle();
        due(m.block(0, 1, 4, true), false);
        due(m.block(0, 2, -1, true), false);
        dueAlike(m, triangle());
        due(n.block(0, 1, 3, true), true);
        due(n.block(0, 1, 3, true), false);
        due(n.end(0, 0, WAITING), 1);
        due(n.block(0, 1, 3, false), true);
        due(n.block(0, 1, 3, false), false);
        due(n.end(0, 0, WAITING), 2);
    }

    // ---------------------------------------------------------------- 12 end

    private static void endTimersNone() {
        sentence("Promise 12", "1 its timer (0: none)");
        Net n = still(1);
        due(n.end(0, 0, TIMER), 0);
        due(n.end(0, 0, PATIENCE), 0);
        n.activate(0, true);
        n.tick(5);
        due(n.end(0, 0, TIMER), 15);
        due(n.end(0, 0, PATIENCE), 0);
        n.tick(1);
        due(n.end(0, 0, TIMER), 0);
        due(n.end(0, 0, PATIENCE), 20);
        n.tick(5);
        due(n.end(0, 0, PATIENCE), 0);
        n.activate(0, false);
        n.tick(12);
        due(n.end(0, 0, TIMER), 0);
    }

    private static void endAtFirst() {
        sentence("Promise 12", "2 SENT, 3 TAKEN, 4 FORWARD, 5 BACKWARD");
        // As PART 2 tells them at first, also of a link that never was READY.
        Net n = still(1);
        int[] first = {0, 0, 127, 127, 1, 1, 0, 0, 0, 0, 0, 0, 0, 0, 0, 0};
        for (int what = 0; what < 16; what++) {
            due(n.end(0, 0, what), first[what]);
            due(n.end(0, 1, what), first[what]);
        }
    }

    private static void endRefused() {
        sentence("Promise 12", "NONE for others, or no such end.");
        Net n = pair(1);
        for (int odd : ODD) {
            due(n.end(odd, 0, STATE), NONE);
            due(n.end(0, odd, STATE), NONE);
        }
        for (int what : new int[] {-1, 16, 17, 32, Integer.MIN_VALUE, Integer.MAX_VALUE}) {
            due(n.end(0, 0, what), NONE);
        }
        due(n.end(-1, 0, STATE), NONE);
        due(n.end(1, 0, STATE), NONE);
        due(n.end(0, -1, STATE), NONE);
        due(n.end(0, 2, STATE), NONE);
        due(n.end(0, 1, PEER), 1);
        due(new Net().end(0, 0, STATE), NONE);
    }

    private static void endWhatStays() {
        sentence("Promise 12", "(9 is 0 at first; 2 to 5 and 8 stay till it is READY anew, 9 till PROVING, 10 till "
            + "it starts.)");
        Net n = still(2);
        due(n.end(0, 0, ROUND), 0);
        n.activate(0, true);
        n.tick(2);
        due(n.end(0, 0, ROUND), 0);
        n.tick(1);
        due(n.end(0, 0, ROUND), 1);
        n.damage(0, 0, 1);
        n.tick(57);
        due(n.end(0, 0, ROUND), 2);
        // Message 4 is damaged: both bits of that direction change; the credit is 1.
        n.block(0, 1, 0, true);
        n.tick(1);
        n.damage(0, 1, 1);
        n.tick(5);
        int[] atSide0 = {4, 3, 0, 1};
        int[] atSide1 = {3, 4, 1, 0};
        n.activate(0, false);
        n.tick(12);
        n.activate(1, true);
        n.tick(20);
        n.activate(0, true);
        // It isn't urgent any more: link 1 is in service.
        due(n.end(0, 0, URGENT), 0);
        for (int ticks = 0; ticks < 2; ticks++) {
            for (int i = 0; i < 4; i++) {
                due(n.end(0, 0, SENT + i), atSide0[i]);
                due(n.end(0, 1, SENT + i), atSide1[i]);
            }
            due(n.end(0, 1, CREDIT), 1);
            due(n.end(0, 0, ROUND), 2 - ticks);
            n.tick(3);
        }
        // SEEKING in tick 1, ALIGNED in 2, PROVING in 3 to 9, READY in 10.
        due(n.end(0, 0, STATE), PROVING);
        n.tick(3);
        due(n.end(0, 0, STATE), PROVING);
        due(n.end(0, 0, SENT), 4);
        n.tick(1);
        due(n.end(0, 0, STATE), READY);
        for (int side = 0; side < 2; side++) {
            due(n.end(0, side, SENT), 127);
            due(n.end(0, side, TAKEN), 127);
            due(n.end(0, side, FORWARD), 1);
            due(n.end(0, side, BACKWARD), 1);
            due(n.end(0, side, CREDIT), 0);
        }
        n.activate(0, false);
        n.activate(1, false);
        n.tick(12);
        due(n.end(0, 0, URGENT), 0);
        n.activate(0, true);
        due(n.end(0, 0, URGENT), 1);
        n.activate(0, false);
        due(n.end(0, 0, URGENT), 1);
    }

    private static void endRepeatsNotWhenFailed() {
        sentence("Promise 12", "12 whether it repeats (0 when it has failed)");
        Net n = pair(1);
        give(n, 0, 1, 0, 6);
        n.tick(1);
        n.damage(0, 1, 1);
        n.tick(3);
        due(n.end(0, 0, REPEATS), 1);
        due(n.end(0, 0, UNACKNOWLEDGED), 3);
        n.activate(0, false);
        due(n.end(0, 0, REPEATS), 0);
        due(n.end(0, 0, UNACKNOWLEDGED), 3);
        due(n.end(0, 0, WAITING), 3);
    }

    // ---------------------------------------------------------------- 13 octet

    private static void octetHowManyFollow() {
        sentence("Promise 13", "2 how many follow ahead of the check (FILL 0, STOP, SEEK, PROVE 1, MESSAGE 8)");
        Net n = still(1);
        n.tick(1);
        dueLength(n, 1);
        n.activate(0, true);
        n.tick(1);
        dueLength(n, 1);
        n.tick(1);
        dueLength(n, 1);
        n.tick(3);
        due(n.end(0, 0, STATE), READY);
        dueLength(n, 0);
        n.tick(1);
        dueLength(n, 8);
        n.tick(20);
        dueLength(n, 0);
    }

    private static void dueLength(Net n, int follow) {
        due(n.octet(0, 0, 2), follow);
        due(n.octet(0, 0, follow + 4) >= 0, true);
        due(n.octet(0, 0, follow + 5), NONE);
    }

    private static void octetOfStates() {
        sentence("Promise 13", "(STOP, SEEK, PROVE: 0 and 1 are 255.)");
        // With other numbers and bits at hand: SENT 4, TAKEN 3, FORWARD 0.
        Net n = pair(1);
        n.block(0, 1, 0, true);
        n.tick(1);
        n.damage(0, 1, 1);
        n.tick(5);
        due(n.octet(0, 0, 0), 3 + 128);
        due(n.octet(0, 0, 1), 4);
        n.activate(0, false);
        int[] fourth = {0, 1, 3 + 4 * 2};
        for (int i = 0; i < 3; i++) {
            n.tick(i == 0 ? 12 : 1);
            due(n.octet(0, 0, 0), 255);
            due(n.octet(0, 0, 1), 255);
            due(n.octet(0, 0, 3), fourth[i]);
            n.activate(0, true);
        }
    }

    private static void octetOfLives() {
        sentence("Promise 13", "of these two with 4 times the LIFE added");
        Net n = still(1);
        for (int i = 1; i <= 17; i++) {
            n.activate(0, true);
            n.tick(1);
            due(n.octet(0, 0, 3), 1);
            n.tick(1);
            due(n.octet(0, 0, 3), 3 + 4 * (i % 16));
            n.activate(0, false);
            n.tick(12);
            due(n.octet(0, 0, 3), 0);
        }
        Net m = pair(2);
        for (int i = 2; i <= 17; i++) {
            m.activate(1, false);
            m.tick(12);
            m.activate(1, true);
            m.tick(2);
            due(m.octet(1, 1, 3), 2 + 4 * (i % 16));
        }
    }

    private static void octetsOfLabel() {
        sentence("Promise 13", "four of 32 bits, the lowest first: to, 2^14 * from, 2^28 * flow, added");
        Net n = new Net();
        n.link(5, 4);
        n.route(5, 4, 4, NONE);
        n.route(4, 5, 5, NONE);
        n.activate(0, true);
        n.tick(20);
        n.block(5, 4, 3, true);
        n.block(4, 5, 0, true);
        n.tick(1);
        // From 5 to 4 in flow 3: 4 + 5 * 2^14 + 3 * 2^28 = 4 + 2^14 + 2^16 + 3 * 2^28.
        int[] from5 = {4, 64, 1, 48};
        // From 4 to 5 in flow 0: 5 + 4 * 2^14 = 5 + 2^16.
        int[] from4 = {5, 0, 1, 0};
        for (int i = 0; i < 4; i++) {
            due(n.octet(0, 1, 4 + i), from5[i]);
            due(n.octet(0, 0, 4 + i), from4[i]);
        }
    }

    private static void octetLowestBits() {
        sentence("Promise 13", "its two numbers (their lowest 8 bits)");
        // Round and round for exchange 4: the fourth circuit's LENGTH is 4, and 64 times that is 256.
        Net n = new Net();
        for (int i = 0; i < 3; i++) {
            n.link(i, (i + 1) % 3);
        }
        for (int i = 0; i < 3; i++) {
            n.route(i, (i + 1) % 3, (i + 1) % 3, NONE);
            n.route(i, (i + 2) % 3, (i + 2) % 3, NONE);
            n.route(i, 4, (i + 1) % 3, NONE);
        }
        for (int i = 0; i < 3; i++) {
            n.activate(i, true);
        }
        n.tick(30);
        n.dial(0, 43);
        // Link 0 has side 0 at 0, link 1 side 0 at 1, link 2 (from 2 to 0) side 1 at 2.
        int[] side = {0, 0, 1};
        for (int length = 1; length <= 6; length++) {
            n.tick(1);
            int link = (length - 1) % 3;
            due(n.octet(link, side[link], 3), 7);
            due(n.octet(link, side[link], 9), (43 + 64 * length) % 256);
        }
        due(n.circuit(1, 0, 1, 7), 4);
        due(n.circuit(1, 0, 1, 5), 43);
        // The first number is 255 at most: circuit 3 and 4 * 63; behind that the COUNT is 0.
        Net m = pair(1);
        for (int c = 0; c < 3; c++) {
            m.block(0, 1, c, true);
        }
        m.tick(5);
        for (int i = 1; i <= 65; i++) {
            m.dial(0, 10);
            m.tick(1);
            if (i >= 62) {
                due(m.octet(0, 0, 3), 7);
                due(m.octet(0, 0, 8), 3 + 4 * (i % 64));
            }
            m.hang(0);
            m.tick(4);
        }
    }

    private static void octetCheck() {
        sentence("Promise 13", "last the CHECK, two, the lowest first");
        // The check of "123456789" is known to be 0x906E.
        latestCall = "the test's own check";
        due(check(new int[] {'1', '2', '3', '4', '5', '6', '7', '8', '9'}, 9), 0x906E);
        // Of the shortest unit, a FILL, and of the longest, a MESSAGE; and of those between.
        Net n = still(1);
        n.activate(0, true);
        for (int tick = 1; tick <= 8; tick++) {
            n.tick(1);
            int[] octets = new int[11];
            int count = 3 + n.octet(0, 0, 2);
            for (int i = 0; i < count; i++) {
                octets[i] = n.octet(0, 0, i);
            }
            due(n.octet(0, 0, count), check(octets, count) % 256);
            due(n.octet(0, 0, count + 1), check(octets, count) / 256);
            due(n.octet(0, 0, count + 2), NONE);
        }
    }

    /** A division by x^16 + x^12 + x^5 + 1 from the other end, octets and bits turned round. */
    private static int check(int[] octets, int count) {
        int rest = 0xFFFF;
        for (int i = 0; i < count; i++) {
            rest ^= Integer.reverse(octets[i]) >>> 16;
            for (int bit = 0; bit < 8; bit++) {
                rest = (rest & 0x8000) != 0 ? (rest << 1 ^ 0x1021) & 0xFFFF : rest << 1;
            }
        }
        return Integer.reverse(~rest & 0xFFFF) >>> 16;
    }

    private static void octetRefused() {
        sentence("Promise 13", "NONE when there is none such, and ahead of the end's first one.");
        Net n = new Net();
        due(n.octet(0, 0, 0), NONE);
        n.link(0, 1);
        due(n.octet(0, 0, 0), NONE);
        n.activate(0, true);
        due(n.octet(0, 1, 3), NONE);
        n.tick(0);
        due(n.octet(0, 0, 0), NONE);
        n.tick(1);
        due(n.octet(0, 0, 0), 255);
        due(n.octet(0, 0, 6), NONE);
        for (int odd : ODD) {
            due(n.octet(odd, 0, 0), NONE);
            due(n.octet(0, odd, 0), NONE);
            due(n.octet(0, 0, odd), NONE);
        }
        due(n.octet(0, 0, -1), NONE);
        due(n.octet(0, -1, 0), NONE);
        due(n.octet(0, 2, 0), NONE);
        due(n.octet(-1, 0, 0), NONE);
        due(n.octet(1, 0, 0), NONE);
        // A link made later has its own first one.
        n.link(0, 1);
        due(n.octet(1, 0, 0), NONE);
        n.tick(5);
        due(n.octet(0, 0, 12) != NONE, true);
        due(n.octet(0, 0, 13), NONE);
    }

    // ---------------------------------------------------------------- 14 bits

    private static void bitsCountedAnew() {
        sentence("Promise 14", "behind each five 1s side by side (of the octets' bits alone, counted anew behind "
            + "each that was put in) a 0 is put in");
        Net n = still(1);
        for (int tick = 0; tick < 18; tick++) {
            if (tick == 1 || tick == 14) {
                n.activate(0, tick == 1);
            }
            n.tick(1);
            String stuffed = stuffed(n);
            due(n.bits(0, 0), stuffed.length());
        }
        // 16 ones in a row have three 0s put in, not one and not twelve.
        Net m = still(1);
        m.activate(0, true);
        m.tick(1);
        due(m.octet(0, 0, 2), 1);
        due(m.bits(0, 0), 48 + 3);
        // The FILL of TAKEN 10 and number 8 has a check that ends in five 1s: behind them, too, is a 0.
        Net k = pair(1);
        give(k, 0, 1, 0, 5);
        give(k, 1, 0, 0, 7);
        k.tick(15);
        due(k.octet(0, 0, 0), 10 + 128);
        due(k.octet(0, 0, 1), 8 + 128);
        due(stuffed(k).endsWith("111110"), true);
        due(k.bits(0, 0), stuffed(k).length());
    }

    /** The unit that side 0 of link 0 sent latest, with all that is put in. */
    private static String stuffed(Net n) {
        StringBuilder line = new StringBuilder();
        for (int i = 0; i < 13; i++) {
            int octet = n.octet(0, 0, i);
            for (int bit = 0; bit < 8 && octet != NONE; bit++) {
                line.append(octet >> bit & 1);
            }
        }
        // Replaced from left to right, none of them twice: that is counting anew.
        return line.toString().replace("11111", "111110");
    }

    private static void bitsRefused() {
        sentence("Promise 14", "NONE likewise.");
        Net n = new Net();
        due(n.bits(0, 0), NONE);
        n.link(0, 1);
        due(n.bits(0, 0), NONE);
        n.tick(1);
        due(n.bits(0, 0) > 0, true);
        for (int odd : ODD) {
            due(n.bits(odd, 0), NONE);
            due(n.bits(0, odd), NONE);
        }
        due(n.bits(-1, 0), NONE);
        due(n.bits(1, 0), NONE);
        due(n.bits(0, -1), NONE);
        due(n.bits(0, 2), NONE);
    }

    // ---------------------------------------------------------------- 15 flow

    private static void flowRefused() {
        sentence("Promise 15", "NONE for others, or no such flow.");
        Net n = pair(1);
        for (int odd : ODD) {
            due(n.flow(odd, 1, 0, 1), NONE);
            due(n.flow(0, odd, 0, 1), NONE);
            due(n.flow(0, 1, odd, 1), NONE);
            due(n.flow(0, 1, 0, odd), NONE);
        }
        due(n.flow(-1, 0, 0, 1), NONE);
        due(n.flow(6, 0, 0, 1), NONE);
        due(n.flow(0, -1, 0, 1), NONE);
        due(n.flow(0, 6, 0, 1), NONE);
        due(n.flow(0, 0, 0, 1), NONE);
        due(n.flow(0, 2, 0, 1), NONE);
        due(n.flow(0, 1, -1, 1), NONE);
        due(n.flow(0, 1, 4, 1), NONE);
        due(n.flow(0, 1, 0, -1), NONE);
        due(n.flow(0, 1, 0, 4), NONE);
        due(n.flow(0, 1, 3, 1), 0);
        due(n.flow(1, 0, 3, 2), 0);
        // Not the first flow to the next neighbour, nor the last one to that ahead.
        Net m = triangle();
        due(m.flow(0, 1, 4, 1), NONE);
        due(m.flow(0, 2, -1, 1), NONE);
    }

    private static void flowChangeoverNone() {
        sentence("Promise 15", "3 of which link's changeover (NONE)");
        Net n = pair(1);
        due(n.flow(0, 1, 0, 3), NONE);
        n.activate(0, false);
        due(n.flow(0, 1, 0, 3), 0);
        n.tick(10);
        due(n.flow(0, 1, 0, 3), NONE);
        // Held for a changeback it is of no changeover.
        Net m = pair(1);
        m.link(0, 1);
        m.activate(1, true);
        m.tick(11);
        due(m.flow(0, 1, 1, 1), 2);
        due(m.flow(0, 1, 1, 3), NONE);
    }

    // ---------------------------------------------------------------- 16 next

    private static void nextRefused() {
        sentence("Promise 16", "NONE for others, no such two (x and d alike, too), no such neighbour");
        Net n = triangle();
        for (int odd : ODD) {
            due(n.next(odd, 1, 0), NONE);
            due(n.next(0, odd, 0), NONE);
        }
        due(n.next(-1, 1, 0), NONE);
        due(n.next(6, 1, 0), NONE);
        due(n.next(0, -1, 0), NONE);
        due(n.next(0, 6, 0), NONE);
        for (int what : new int[] {-22, -12, -11, -10, -1, 1, 2, 9, 30, 31, 32, 102, 112,
            Integer.MIN_VALUE, Integer.MAX_VALUE}) {
            due(n.next(0, 1, what), NONE);
        }
        // Neighbours of 0 are 1 and 2: not itself, not 3 to 5, not 6 to 9.
        for (int other : new int[] {0, 3, 4, 5, 6, 7, 8, 9}) {
            due(n.next(0, 1, 10 + other), NONE);
            due(n.next(0, 1, 20 + other), NONE);
        }
        due(n.next(0, 1, 12), 0);
        due(n.next(0, 1, 22), 0);
    }

    private static void nextOfItself() {
        sentence("Promise 16", "no such two (x and d alike, too)");
        Net n = triangle();
        for (int x = 0; x < 3; x++) {
            due(n.next(x, x, 0), NONE);
            due(n.next(x, x, 10 + (x + 1) % 3), NONE);
            due(n.next(x, x, 20 + (x + 1) % 3), NONE);
        }
    }

    private static void nextNothingTold() {
        sentence("Promise 16", "nothing told");
        Net n = still(1);
        due(n.next(0, 2, 21), NONE);
        due(n.next(0, 2, 11), 0);
        n.activate(0, true);
        n.tick(5);
        due(n.next(0, 2, 21), NONE);
        n.tick(1);
        due(n.next(0, 2, 21), 1);
        due(n.next(0, 5, 21), 1);
        // A neighbour is told nothing of itself.
        due(n.next(0, 1, 21), NONE);
        due(n.next(0, 1, 11), 0);
    }

    // ---------------------------------------------------------------- 17 circuit

    private static void circuitRefused() {
        sentence("Promise 17", "NONE for others, or no such end.");
        Net n = pair(1);
        for (int odd : ODD) {
            due(n.circuit(odd, 1, 0, 0), NONE);
            due(n.circuit(0, odd, 0, 0), NONE);
            due(n.circuit(0, 1, odd, 0), NONE);
            due(n.circuit(0, 1, 0, odd), NONE);
        }
        due(n.circuit(-1, 0, 0, 0), NONE);
        due(n.circuit(6, 0, 0, 0), NONE);
        due(n.circuit(0, -1, 0, 0), NONE);
        due(n.circuit(0, 6, 0, 0), NONE);
        due(n.circuit(0, 0, 0, 0), NONE);
        due(n.circuit(0, 2, 0, 0), NONE);
        due(n.circuit(0, 1, -1, 0), NONE);
        due(n.circuit(0, 1, 4, 0), NONE);
        due(n.circuit(0, 1, 0, -1), NONE);
        due(n.circuit(0, 1, 0, 8), NONE);
        due(n.circuit(0, 1, 3, 7), 0);
        due(n.circuit(1, 0, 3, 0), 0);
        // Not the first circuit to the next neighbour, nor the last one to that ahead.
        Net m = triangle();
        due(m.circuit(0, 1, 4, 0), NONE);
        due(m.circuit(0, 2, -1, 0), NONE);
    }

    private static void circuitNoneWhenIdle() {
        sentence("Promise 17", "5 the number that it was connected for, or wanted (NONE when idle, in 7, 8)");
        Net n = new Net();
        n.link(0, 1);
        n.route(0, 1, 1, NONE);
        due(n.circuit(0, 1, 0, 5), NONE);
        due(n.circuit(0, 1, 0, 4), NONE);
        n.dial(3, 13);
        due(n.circuit(0, 1, 0, 5), 13);
        due(n.circuit(0, 1, 0, 4), 3);
        n.tick(20);
        due(n.circuit(0, 1, 0, 0), 7);
        due(n.circuit(0, 1, 0, 5), NONE);
        due(n.circuit(0, 1, 0, 4), NONE);
        due(n.circuit(0, 1, 0, 7), 0);
        n.tick(30);
        due(n.circuit(0, 1, 0, 0), 8);
        due(n.circuit(0, 1, 0, 5), NONE);
        due(n.circuit(0, 1, 0, 7), 0);
        // Number 0 of subscriber 0 is a number, not none.
        Net m = pair(1);
        m.dial(10, 0);
        due(m.circuit(1, 0, 0, 5), 0);
        due(m.circuit(1, 0, 0, 4), 10);
        m.tick(2);
        due(m.circuit(0, 1, 0, 5), 0);
        due(m.circuit(0, 1, 0, 4), 0);
        m.hang(10);
        m.tick(4);
        due(m.circuit(0, 1, 0, 5), NONE);
        due(m.circuit(1, 0, 0, 5), NONE);
    }

    private static void circuitTimerOfSeven() {
        sentence("Promise 17", "1 its timer (of 7 the first; 0: none)");
        Net n = new Net();
        n.link(0, 1);
        n.route(0, 1, 1, NONE);
        due(n.circuit(0, 1, 0, 1), 0);
        n.dial(0, 10);
        due(n.circuit(0, 1, 0, 1), 20);
        n.hang(0);
        for (int i = 0; i < 29; i++) {
            due(n.circuit(0, 1, 0, 1), 6 - i % 6);
            n.tick(1);
        }
        due(n.circuit(0, 1, 0, 1), 1);
        n.tick(1);
        due(n.circuit(0, 1, 0, 1), 30);
    }

    // ---------------------------------------------------------------- 18 subscriber

    private static void subscriberRefused() {
        sentence("Promise 18", "NONE for others, or no such one.");
        Net n = pair(1);
        for (int number : new int[] {-10, -1, 4, 9, 14, 19, 54, 59, 60, 63, 100, Integer.MIN_VALUE,
            Integer.MAX_VALUE}) {
            for (int what = 0; what < 3; what++) {
                due(n.subscriber(number, what), NONE);
            }
        }
        for (int what : new int[] {-1, 3, 4, Integer.MIN_VALUE, Integer.MAX_VALUE}) {
            due(n.subscriber(0, what), NONE);
        }
        due(n.subscriber(0, 0), 0);
        due(n.subscriber(53, 0), 0);
    }

    private static void subscriberTalksWithNobody() {
        sentence("Promise 18", "2 whom it talks with (NONE: nobody)");
        Net n = pair(1);
        due(n.subscriber(0, 2), NONE);
        n.dial(10, 0);
        n.tick(3);
        due(n.subscriber(10, 2), NONE);
        n.answer(0);
        // It is TALKING, but the other doesn't know yet: the circuit's other end is in 2.
        due(n.subscriber(0, 0), 4);
        due(n.subscriber(0, 2), NONE);
        n.tick(2);
        due(n.subscriber(0, 2), 10);
        // Subscriber 0 is somebody.
        due(n.subscriber(10, 2), 0);
        n.hang(0);
        due(n.subscriber(10, 0), 4);
        due(n.subscriber(10, 2), NONE);
    }

    // ---------------------------------------------------------------- 19 counted

    private static void countedRefused() {
        sentence("Promise 19", "NONE for others.");
        Net n = pair(1);
        for (int what : new int[] {-1, 4, 5, Integer.MIN_VALUE, Integer.MAX_VALUE}) {
            due(n.counted(what), NONE);
        }
        due(n.counted(3), 5);
    }

    private static void countedNoKind() {
        sentence("Promise 19", "3 the kind of the latest of these (0: none)");
        Net n = still(1);
        n.activate(0, true);
        n.tick(6);
        due(n.counted(KIND), 0);
        due(n.counted(DONE), 0);
        n.tick(1);
        due(n.counted(KIND), 5);
        due(n.counted(DONE), 2);
    }

    private static void countedSecondNumbers() {
        sentence("Promise 19", "INITIAL has the called number and 64 times LENGTH as second number; others are 0");
        Net n = pair(1);
        n.dial(3, 13);
        n.tick(1);
        dueMessage(n, 0, 7, 0 + 4, 13 + 64);
        n.tick(1);
        dueMessage(n, 1, 8, 0 + 4, 0);
        n.answer(13);
        n.tick(1);
        dueMessage(n, 1, 9, 0 + 4, 0);
        n.block(0, 1, 3, true);
        n.tick(1);
        dueMessage(n, 0, 13, 3, 0);
        n.hang(3);
        n.tick(1);
        dueMessage(n, 0, 10, 0 + 4, 0);
        n.tick(1);
        dueMessage(n, 1, 11, 0 + 4, 0);
        // OPENED (1), from 0 to 2: its first number is the exchange.
        n.tick(5);
        n.route(0, 2, 1, NONE);
        n.link(0, 2);
        n.activate(1, true);
        n.tick(6);
        due(n.octet(1, 0, 3), 6);
        due(n.octet(1, 0, 8), 1);
        due(n.octet(1, 0, 9), 0);
    }

    private static void dueMessage(Net n, int side, int kind, int first, int second) {
        due(n.octet(0, side, 3), kind);
        due(n.octet(0, side, 8), first);
        due(n.octet(0, side, 9), second);
        due(n.octet(0, side, 10), 0);
    }
}
