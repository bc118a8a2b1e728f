/** The boundary cases that PART 1 and PART 2 of the Terms name: one test for each sentence. */
public final class LinkBoundaryTest extends Boundaries {
    /** Where the sentences stand, and the promises by which they are seen. */
    private static final String PART_2 = "Promises 7 and 12, PART 2";

    public static void main(String[] args) {
        exchanges();
        tenLinks();
        fourInASet();
        lowerAndHigherSide();
        fourCircuits();
        subscriberNumbers();
        timersSetBetweenTicks();
        timersSetByArrival();
        timersSetByLooking();
        timersSetBySending();
        timersSetAnew();
        newLinkBringsStop();
        badWhileCut();
        badAsManyAsTold();
        startsUrgent();
        lifeBehind15();
        peerAtFirst();
        peerOfAnEndThatIsOut();
        failsAndStarts();
        failsAndIsNotActive();
        seekingTimer();
        alignedTimer();
        alignedStop();
        provingOf8Or3();
        provingErrorsOf3();
        provingErrorsOf8();
        provingFifthRound();
        provingStop();
        provingTimer();
        readyTimer();
        readyStop();
        creditAtSix();
        creditOfReady();
        creditEach16th();
        creditNotBelow0();
        creditCountedAhead();
        inServiceFails();
        numbersBehind127();
        numbersAcknowledgedRoundTheEnd();
        numbersRepeatedRoundTheEnd();
        numbersMissedRoundTheEnd();
        numbersOfFillsMissed();
        windowGrows();
        repeatsFromFirstToLast();
        acknowledgedWhileRepeating();
        acknowledgesNothing();
        otherBitNothingMore();
        waitingTimerSet();
        waitingTimerPartly();
        waitingTimerStops();
        waitingTimerOut();
        finish("boundaries of links");
    }

    /** Damages one unit at an end in each of these ticks, which are the object's own, in order. */
    private static void damageIn(Net n, int link, int side, int... ticks) {
        for (int tick : ticks) {
            int now = n.tick(0);
            n.tick(tick - 1 - now);
            n.damage(link, side, 1);
        }
        n.tick(1);
    }

    // ---------------------------------------------------------------- PART 1

    private static void exchanges() {
        sentence("Promise 2, PART 1", "EXCHANGES 0 to 5.");
        Net n = new Net();
        due(n.link(5, 0), 0);
        due(n.route(5, 0, 0, NONE), true);
        due(n.route(0, 5, 5, NONE), true);
        due(n.link(6, 0), NONE);
        due(n.link(-1, 0), NONE);
        n.activate(0, true);
        n.tick(20);
        due(n.next(5, 0, 0), 0);
        due(n.next(0, 5, 0), 5);
        due(n.dial(53, 0), true);
        n.tick(3);
        due(n.subscriber(0, 0), 3);
        due(n.subscriber(0, 1), 150);
        due(n.subscriber(53, 1), 100);
    }

    private static void tenLinks() {
        sentence("Promise 2, PART 1", "LINKS 0, 1, .. (at most 10), each between two exchanges");
        Net n = new Net();
        for (int i = 0; i < 10; i++) {
            due(n.link(i < 8 ? 0 : 1, i < 4 ? 1 : 2), i);
            n.activate(i, true);
        }
        due(n.link(3, 4), NONE);
        n.tick(100);
        for (int i = 0; i < 10; i++) {
            due(n.end(i, 0, STATE), IN_SERVICE);
            due(n.end(i, 1, STATE), IN_SERVICE);
        }
        // The highest link fails at exchange 1: the OVER by link 8 tells 9 and 16 times LIFE 1.
        n.damage(9, 0, 6);
        n.tick(6);
        due(n.end(9, 0, STATE), OUT);
        due(n.octet(8, 0, 3), 1);
        due(n.octet(8, 0, 8), 9 + 16);
        n.tick(2);
        due(n.end(9, 1, STATE), OUT);
        due(n.flow(1, 2, 1, 0), 8);
    }

    private static void fourInASet() {
        sentence("Promise 2, PART 1", "those between the same two a SET (at most 4)");
        Net n = pair(4);
        due(n.link(0, 1), NONE);
        for (int s = 0; s < 4; s++) {
            due(n.flow(0, 1, s, 0), s);
            due(n.flow(1, 0, s, 0), s);
            due(n.flow(0, 1, s, 1), 0);
        }
    }

    private static void lowerAndHigherSide() {
        sentence("Promise 13, PART 1", "side 0 at the exchange with the lower number, side 1 at the other one");
        Net n = new Net();
        n.link(4, 2);
        n.activate(0, true);
        n.tick(6);
        // The first message of side 0 is a CLOSED from 2 to 4: 4 + 2 * 2^14.
        due(n.octet(0, 0, 4), 4);
        due(n.octet(0, 0, 5), 128);
        due(n.octet(0, 1, 4), 2);
        due(n.octet(0, 1, 6), 1);
    }

    private static void fourCircuits() {
        sentence("Promise 17, PART 1", "Neighbours have four CIRCUITS, 0 to 3, between them, each with an end at "
            + "both.");
        // Four, whether there is one link or more.
        Net n = pair(2);
        for (int c = 0; c < 4; c++) {
            due(n.dial(c, 10 + c), true);
            due(n.subscriber(c, 1), 110 + c);
        }
        due(n.dial(13, 3), true);
        due(n.subscriber(13, 1), 100);
        due(n.circuit(0, 1, 4, 0), NONE);
        due(n.circuit(1, 0, 4, 0), NONE);
        due(n.circuit(0, 1, -1, 0), NONE);
        // One link more makes no new ones, nor new flows.
        due(n.link(1, 0), 2);
        due(n.circuit(0, 1, 3, 0), 1);
        due(n.circuit(0, 1, 3, 4), 3);
        due(n.circuit(1, 0, 0, 0), 1);
        due(n.flow(0, 1, 1, 0), 1);
    }

    private static void subscriberNumbers() {
        sentence("Promise 18, PART 1", "SUBSCRIBERS 0 to 3 of each exchange: their numbers are 10 * exchange + 0 to "
            + "3.");
        Net n = new Net();
        for (int x = 0; x < 6; x++) {
            due(n.dial(10 * x, 10 * x + 3), true);
            due(n.subscriber(10 * x + 3, 0), 3);
            due(n.subscriber(10 * x + 3, 1), 10 * x);
            due(n.dial(10 * x + 1, 10 * x + 4), false);
            due(n.dial(10 * x + 4, 10 * x + 1), false);
        }
        due(n.dial(60, 0), false);
        due(n.dial(1, 60), false);
        due(n.dial(-1, 1), false);
    }

    private static void timersSetBetweenTicks() {
        sentence("Promise 7, PART 1", "A timer set to n runs OUT at the n-th looking at the timers that BEGINS "
            + "behind that");
        // Set between two ticks: the next tick's looking is the first.
        Net n = still(1);
        n.cut(0, true);
        n.activate(0, true);
        due(n.end(0, 0, TIMER), 30);
        n.tick(0);
        due(n.end(0, 0, TIMER), 30);
        n.tick(1);
        due(n.end(0, 0, TIMER), 29);
        n.tick(28);
        due(n.end(0, 0, STATE), SEEKING);
        due(n.end(0, 0, TIMER), 1);
        n.tick(1);
        due(n.end(0, 0, STATE), OUT);
    }

    private static void timersSetByArrival() {
        sentence("Promise 7, PART 1", "first, what was sent in the tick ahead arrives");
        // Set by what arrives: the looking of the same tick is the first of them.
        Net n = still(1);
        n.activate(0, true);
        n.tick(2);
        due(n.end(0, 0, STATE), ALIGNED);
        due(n.end(0, 0, TIMER), 14);
        n.tick(1);
        due(n.end(0, 0, STATE), PROVING);
        due(n.end(0, 0, TIMER), 2);
    }

    private static void timersSetByLooking() {
        sentence("Promise 7, PART 1", "the n-th looking at the timers that BEGINS behind that");
        // Set while timers are looked at: that looking began ahead of it, and is none of them.
        Net n = still(1);
        n.cut(0, true);
        n.activate(0, true);
        n.tick(30);
        due(n.end(0, 0, STATE), OUT);
        due(n.end(0, 0, TIMER), 12);
        n.tick(11);
        due(n.end(0, 0, TIMER), 1);
        n.tick(1);
        due(n.end(0, 0, STATE), SEEKING);
        due(n.end(0, 0, TIMER), 30);
        // Also if what it belongs to is looked at behind that in the same looking: circuit 0 from 1
        // to 0 is let go in the looking, and with it that from 1 to 2, which is the later one.
        Net m = row(3);
        m.dial(20, 0);
        m.tick(4);
        due(m.circuit(1, 0, 0, 0), 2);
        due(m.circuit(1, 0, 0, 1), 59);
        m.tick(58);
        due(m.circuit(1, 0, 0, 1), 1);
        due(m.circuit(1, 2, 0, 0), 5);
        m.tick(1);
        due(m.circuit(1, 0, 0, 0), 7);
        due(m.circuit(1, 0, 0, 1), 6);
        due(m.circuit(1, 2, 0, 0), 7);
        due(m.circuit(1, 2, 0, 1), 6);
    }

    private static void timersSetBySending() {
        sentence("Promise 7, PART 1", "last, each end sends a unit");
        // Set when a unit is sent: the looking of that tick is over.
        Net n = pair(1);
        n.block(0, 1, 0, true);
        n.tick(1);
        due(n.end(0, 0, PATIENCE), 20);
        n.damage(0, 0, 1);
        n.tick(1);
        due(n.end(0, 0, PATIENCE), 19);
    }

    private static void timersSetAnew() {
        sentence("Promise 7, PART 1", "set anew it begins anew");
        Net n = second();
        n.tick(9);
        due(n.end(1, 0, TIMER), 1);
        n.damage(1, 0, 1);
        // One error in the last of eight lookings doesn't set it anew, so it is READY.
        n.tick(1);
        due(n.end(1, 0, STATE), READY);
        Net m = second();
        damageIn(m, 1, 0, 69, 70);
        due(m.end(1, 0, STATE), PROVING);
        due(m.end(1, 0, TIMER), 7);
        m.tick(6);
        due(m.end(1, 0, TIMER), 1);
        m.tick(1);
        due(m.end(1, 0, STATE), READY);
    }

    // ---------------------------------------------------------------- PART 2: what arrives

    private static void newLinkBringsStop() {
        sentence(PART_2, "What arrives is what the other end sent in the tick ahead, of a new link a STOP");
        Net n = pair(1);
        n.link(0, 1);
        n.activate(1, true);
        n.tick(1);
        // A SEEK would have aligned it, a FILL or BAD would tell nothing else.
        due(n.end(1, 0, STATE), SEEKING);
        due(n.end(1, 1, STATE), SEEKING);
        n.tick(1);
        due(n.end(1, 0, STATE), ALIGNED);
        due(n.end(1, 1, STATE), ALIGNED);
    }

    private static void badWhileCut() {
        sentence(PART_2, "it is BAD instead, while the link is CUT");
        Net n = pair(2);
        n.cut(0, true);
        n.cut(0, false);
        n.tick(1);
        due(n.end(0, 0, CREDIT), 0);
        n.cut(0, true);
        n.tick(1);
        n.cut(0, false);
        due(n.end(0, 0, CREDIT), 1);
        due(n.end(0, 1, CREDIT), 1);
        due(n.end(1, 0, CREDIT), 0);
        n.tick(1);
        due(n.end(0, 0, CREDIT), 1);
    }

    private static void badAsManyAsTold() {
        sentence(PART_2, "and for as many as were told to be damaged (each that arrives there, in any case, is one "
            + "of these)");
        Net n = still(1);
        n.damage(0, 0, 3);
        n.tick(1);
        due(n.end(0, 0, DAMAGED), 2);
        due(n.end(0, 0, STATE), OUT);
        n.cut(0, true);
        n.tick(1);
        due(n.end(0, 0, DAMAGED), 1);
        n.cut(0, false);
        n.activate(0, true);
        n.tick(1);
        due(n.end(0, 0, DAMAGED), 0);
        // The SEEK of this tick arrives in the next one, and isn't one of them any more.
        n.tick(1);
        due(n.end(0, 0, STATE), ALIGNED);
        due(n.end(0, 0, DAMAGED), 0);
        Net m = pair(1);
        m.damage(0, 0, 5);
        m.tick(10);
        due(m.end(0, 0, CREDIT), 4);
        due(m.end(0, 1, CREDIT), 0);
        due(m.end(0, 0, DAMAGED), 0);
    }

    // ---------------------------------------------------------------- PART 2: it starts and fails

    private static void startsUrgent() {
        sentence(PART_2, "it is urgent if no other link of the set is IN SERVICE at its exchange");
        Net n = still(2);
        n.activate(0, true);
        n.tick(5);
        // Link 0 is READY, which isn't enough.
        n.activate(1, true);
        due(n.end(1, 0, URGENT), 1);
        due(n.end(1, 1, URGENT), 1);
        Net m = still(2);
        m.activate(0, true);
        m.tick(6);
        m.activate(1, true);
        due(m.end(1, 0, URGENT), 0);
        due(m.end(1, 1, URGENT), 0);
        // A link of another set doesn't count.
        m.link(1, 2);
        m.activate(2, true);
        due(m.end(2, 0, URGENT), 1);
        // In service at exchange 0 alone: link 0 failed at 1, and the STOP isn't there yet.
        Net k = pair(1);
        k.link(0, 1);
        k.damage(0, 1, 6);
        k.tick(6);
        due(k.end(0, 0, STATE), IN_SERVICE);
        due(k.end(0, 1, STATE), OUT);
        k.activate(1, true);
        due(k.end(1, 0, URGENT), 0);
        due(k.end(1, 1, URGENT), 1);
    }

    private static void lifeBehind15() {
        sentence(PART_2, "its LIFE (0 at first) is 1 more, 0 behind 15");
        Net n = still(1);
        due(n.end(0, 0, LIFE), 0);
        n.cut(0, true);
        n.activate(0, true);
        // A life of a link that is cut: SEEKING for 30, OUT for 12.
        for (int i = 1; i <= 33; i++) {
            due(n.end(0, 0, LIFE), i % 16);
            due(n.end(0, 1, LIFE), i % 16);
            n.tick(41);
            due(n.end(0, 0, LIFE), i % 16);
            n.tick(1);
        }
        // The 34th life is 2 in both: the PROVE bears it.
        n.cut(0, false);
        n.tick(5);
        due(n.end(0, 0, LIFE), 2);
        due(n.end(0, 0, PEER), 2);
        due(n.end(0, 1, PEER), 2);
    }

    private static void peerAtFirst() {
        sentence(PART_2, "is this one's PEER (0 at first)");
        Net n = still(1);
        due(n.end(0, 0, PEER), 0);
        n.activate(0, true);
        n.tick(2);
        due(n.end(0, 0, PEER), 0);
        n.damage(0, 0, 1);
        n.tick(1);
        // Side 1 got the PROVE, at side 0 it was BAD, which bears nothing.
        due(n.end(0, 0, PEER), 0);
        due(n.end(0, 1, PEER), 1);
        n.tick(1);
        due(n.end(0, 0, PEER), 1);
    }

    private static void peerOfAnEndThatIsOut() {
        sentence(PART_2, "what the latest bore that arrived at an end that is not OUT is this one's PEER");
        Net n = still(1);
        n.activate(0, true);
        n.tick(2);
        due(n.octet(0, 0, 3), 3 + 4);
        n.activate(0, false);
        n.tick(1);
        // The PROVE of LIFE 1 came when it was OUT.
        due(n.end(0, 0, PEER), 0);
        due(n.end(0, 1, PEER), 0);
        // An end IN SERVICE that gets a PROVE notes it, ahead of failing: not reached by any run, as
        // twelve STOPs come first. What it knew stays when it fails.
        Net m = pair(1);
        m.activate(0, false);
        m.tick(20);
        due(m.end(0, 0, PEER), 1);
        m.activate(0, true);
        m.tick(2);
        due(m.end(0, 0, PEER), 1);
        m.tick(1);
        due(m.end(0, 0, PEER), 2);
    }

    private static void failsAndStarts() {
        sentence(PART_2, "It FAILS: OUT, timer 12; that OUT, it starts, if its link is active.");
        Net n = pair(1);
        n.damage(0, 0, 6);
        n.tick(5);
        due(n.end(0, 0, STATE), IN_SERVICE);
        n.tick(1);
        // Failed by what arrived: the looking of this tick was the first of twelve.
        due(n.end(0, 0, STATE), OUT);
        due(n.end(0, 0, TIMER), 11);
        n.tick(10);
        due(n.end(0, 0, STATE), OUT);
        due(n.end(0, 0, TIMER), 1);
        n.tick(1);
        due(n.end(0, 0, STATE), SEEKING);
        due(n.end(0, 0, TIMER), 30);
        due(n.end(0, 0, LIFE), 2);
    }

    private static void failsAndIsNotActive() {
        sentence(PART_2, "that OUT, it starts, if its link is active");
        Net n = pair(1);
        n.activate(0, false);
        n.tick(12);
        due(n.end(0, 0, STATE), OUT);
        due(n.end(0, 0, TIMER), 0);
        n.tick(100);
        due(n.end(0, 0, STATE), OUT);
        due(n.end(0, 0, LIFE), 1);
        // Active again a tick ahead of its timer, it starts at that.
        Net m = pair(1);
        m.activate(0, false);
        m.tick(11);
        m.activate(0, true);
        due(m.end(0, 0, STATE), OUT);
        m.tick(1);
        due(m.end(0, 0, STATE), SEEKING);
    }

    private static void seekingTimer() {
        sentence(PART_2, "SEEKING: SEEK, PROVE: ALIGNED, timer 15. Timer OUT: it fails.");
        Net n = still(1);
        n.cut(0, true);
        n.activate(0, true);
        n.tick(29);
        n.cut(0, false);
        // In the 30th tick a SEEK arrives, and that is ahead of the timers.
        n.tick(1);
        due(n.end(0, 0, STATE), ALIGNED);
        due(n.end(0, 0, TIMER), 14);
        Net m = still(1);
        m.cut(0, true);
        m.activate(0, true);
        m.tick(30);
        due(m.end(0, 0, STATE), OUT);
        due(m.end(0, 1, STATE), OUT);
        due(m.counted(LOST), 0);
    }

    private static void alignedTimer() {
        sentence(PART_2, "ALIGNED: .. STOP, timer OUT: it fails.");
        Net n = still(1);
        n.activate(0, true);
        n.tick(2);
        n.cut(0, true);
        n.tick(13);
        due(n.end(0, 0, STATE), ALIGNED);
        due(n.end(0, 0, TIMER), 1);
        n.cut(0, false);
        n.tick(1);
        due(n.end(0, 0, STATE), PROVING);
        due(n.end(0, 0, TIMER), 2);
        Net m = still(1);
        m.activate(0, true);
        m.tick(2);
        m.cut(0, true);
        m.tick(14);
        due(m.end(0, 0, STATE), OUT);
        due(m.end(0, 0, TIMER), 12);
        due(m.end(0, 0, ROUND), 0);
    }

    private static void alignedStop() {
        sentence(PART_2, "ALIGNED: .. STOP .. it fails");
        Net n = still(1);
        n.activate(0, true);
        n.tick(1);
        // Side 1 misses two SEEKs: side 0 is ALIGNED in tick 2, side 1 by the PROVE in tick 4.
        n.damage(0, 1, 2);
        n.tick(3);
        due(n.end(0, 0, TIMER), 12);
        due(n.end(0, 1, STATE), ALIGNED);
        due(n.end(0, 1, TIMER), 14);
        n.cut(0, true);
        n.tick(12);
        due(n.end(0, 0, STATE), OUT);
        due(n.end(0, 1, TIMER), 2);
        n.cut(0, false);
        n.tick(1);
        due(n.end(0, 1, STATE), OUT);
        due(n.end(0, 1, TIMER), 11);
    }

    // ---------------------------------------------------------------- PART 2: proving

    private static void provingOf8Or3() {
        sentence(PART_2, "its timer is 8, but 3 if it is urgent or the PROVE was; no errors");
        Net n = second();
        n.tick(2);
        due(n.octet(1, 0, 3), 2 + 4);
        n.tick(1);
        due(n.end(1, 0, TIMER), 7);
        Net m = still(1);
        m.activate(0, true);
        m.tick(2);
        due(m.octet(0, 0, 3), 3 + 4);
        m.tick(1);
        due(m.end(0, 0, TIMER), 2);
        // Urgent at side 1 alone: there because it is, at side 0 because the PROVE was.
        Net k = pair(1);
        k.link(0, 1);
        k.damage(0, 1, 6);
        k.tick(6);
        k.activate(1, true);
        k.tick(2);
        due(k.octet(1, 0, 3), 2 + 4);
        due(k.octet(1, 1, 3), 3 + 4);
        k.tick(1);
        due(k.end(1, 0, TIMER), 2);
        due(k.end(1, 1, TIMER), 2);
    }

    private static void provingErrorsOf3() {
        sentence(PART_2, "PROVING: BAD: an error more; with 2 (1, if this proving is of 3) it is a round more");
        Net n = still(1);
        n.activate(0, true);
        n.tick(4);
        due(n.end(0, 0, TIMER), 1);
        n.damage(0, 0, 1);
        n.tick(1);
        due(n.end(0, 0, ROUND), 2);
        due(n.end(0, 0, TIMER), 2);
        due(n.end(0, 1, STATE), READY);
        due(n.end(0, 1, ROUND), 1);
        n.tick(2);
        due(n.end(0, 0, STATE), READY);
    }

    private static void provingErrorsOf8() {
        sentence(PART_2, "an error more; with 2 .. else the timer is that anew, without errors");
        Net n = second();
        damageIn(n, 1, 0, 64);
        due(n.end(1, 0, ROUND), 1);
        due(n.end(1, 0, TIMER), 6);
        damageIn(n, 1, 0, 67);
        due(n.end(1, 0, ROUND), 2);
        due(n.end(1, 0, TIMER), 7);
        // Without errors: one more is the first of two.
        damageIn(n, 1, 0, 68);
        due(n.end(1, 0, ROUND), 2);
        due(n.end(1, 0, TIMER), 6);
        damageIn(n, 1, 0, 74);
        due(n.end(1, 0, ROUND), 3);
        due(n.end(1, 0, TIMER), 7);
    }

    private static void provingFifthRound() {
        sentence(PART_2, "at the fifth it fails");
        Net n = still(1);
        n.activate(0, true);
        n.tick(3);
        n.damage(0, 0, 4);
        n.tick(3);
        due(n.end(0, 0, STATE), PROVING);
        due(n.end(0, 0, ROUND), 4);
        n.tick(1);
        due(n.end(0, 0, STATE), OUT);
        due(n.end(0, 0, TIMER), 11);
        // Of 8: two errors for each round, eight in all.
        Net m = second();
        m.tick(3);
        m.damage(1, 0, 8);
        m.tick(7);
        due(m.end(1, 0, STATE), PROVING);
        due(m.end(1, 0, ROUND), 4);
        due(m.end(1, 0, TIMER), 6);
        m.tick(1);
        due(m.end(1, 0, STATE), OUT);
        // With seven it proves itself in the fourth.
        Net k = second();
        k.tick(3);
        k.damage(1, 0, 7);
        k.tick(7);
        due(k.end(1, 0, ROUND), 4);
        k.tick(6);
        due(k.end(1, 0, STATE), READY);
        // Another life begins with the first round.
        n.tick(20);
        due(n.end(0, 0, STATE), IN_SERVICE);
        due(n.end(0, 0, ROUND), 1);
    }

    private static void provingStop() {
        sentence(PART_2, "PROVING: .. STOP: it fails.");
        Net n = still(1);
        n.activate(0, true);
        n.tick(3);
        n.damage(0, 0, 4);
        n.tick(1);
        n.damage(0, 1, 3);
        n.tick(3);
        due(n.end(0, 0, STATE), OUT);
        due(n.end(0, 1, STATE), PROVING);
        due(n.end(0, 1, ROUND), 4);
        n.tick(1);
        due(n.end(0, 1, STATE), OUT);
        due(n.end(0, 1, TIMER), 11);
        due(n.end(0, 1, ROUND), 4);
    }

    private static void provingTimer() {
        sentence(PART_2, "Timer OUT: READY, timer 15, and all numbers and bits of it as at first");
        Net n = still(1);
        n.activate(0, true);
        n.tick(4);
        due(n.end(0, 0, STATE), PROVING);
        due(n.end(0, 0, TIMER), 1);
        n.tick(1);
        due(n.end(0, 0, STATE), READY);
        due(n.end(0, 0, TIMER), 15);
        Net m = second();
        m.tick(9);
        due(m.end(1, 0, STATE), PROVING);
        due(m.end(1, 0, TIMER), 1);
        m.tick(1);
        due(m.end(1, 0, STATE), READY);
        due(m.end(1, 0, TIMER), 15);
        // As at first: link 0 sent and took four, and its bits of one direction changed.
        Net k = pair(1);
        k.block(0, 1, 0, true);
        k.tick(1);
        k.damage(0, 1, 1);
        k.tick(4);
        k.activate(0, false);
        k.activate(0, true);
        // It starts in the looking of the 12th tick, and sends its SEEK in that tick still.
        k.tick(15);
        due(k.end(0, 0, STATE), PROVING);
        due(k.end(0, 0, SENT), 4);
        due(k.end(0, 0, FORWARD), 0);
        k.tick(1);
        due(k.end(0, 0, STATE), READY);
        int[] first = {127, 127, 1, 1};
        for (int what = SENT; what <= BACKWARD; what++) {
            due(k.end(0, 0, what), first[what - SENT]);
            due(k.end(0, 1, what), first[what - SENT]);
        }
        // A FILL of 255, 255.
        due(k.octet(0, 0, 0), 255);
        due(k.octet(0, 0, 1), 255);
    }

    // ---------------------------------------------------------------- PART 2: ready, in service

    private static void readyTimer() {
        sentence(PART_2, "READY: .. timer OUT: it fails");
        // Side 0 is READY in tick 70, till the looking of tick 85. Side 1 goes on proving: its third
        // round begins in tick 77 and is over in 84: the FILL arrives in 85, ahead of the timers.
        Net n = second();
        damageIn(n, 1, 1, 69, 70, 76, 77);
        due(n.end(1, 1, ROUND), 3);
        tickTo(n, 84);
        due(n.end(1, 1, STATE), READY);
        due(n.end(1, 0, STATE), READY);
        due(n.end(1, 0, TIMER), 1);
        n.tick(1);
        due(n.end(1, 0, STATE), IN_SERVICE);
        due(n.end(1, 0, TIMER), 0);
        due(n.end(1, 1, STATE), IN_SERVICE);
    }

    private static void readyStop() {
        sentence(PART_2, "READY: .. SEEK, STOP, timer OUT: it fails.");
        // A tick later: side 1 is READY in 85, when side 0 fails; the STOP comes in 86.
        Net n = second();
        damageIn(n, 1, 1, 68, 69, 73, 74, 77, 78);
        due(n.end(1, 1, ROUND), 4);
        tickTo(n, 84);
        due(n.end(1, 0, STATE), READY);
        due(n.end(1, 0, TIMER), 1);
        n.tick(1);
        due(n.end(1, 0, STATE), OUT);
        due(n.end(1, 0, TIMER), 12);
        due(n.end(1, 1, STATE), READY);
        due(n.end(1, 1, TIMER), 15);
        n.tick(1);
        due(n.end(1, 1, STATE), OUT);
        due(n.end(1, 1, TIMER), 11);
        // Neither was in service: nothing changes over.
        due(n.counted(LOST), 0);
        due(n.flow(0, 1, 1, 1), 0);
    }

    private static void creditAtSix() {
        sentence(PART_2, "a BAD one makes it 1 more; at 6 it fails");
        Net n = pair(1);
        n.damage(0, 0, 6);
        for (int i = 1; i <= 5; i++) {
            n.tick(1);
            due(n.end(0, 0, CREDIT), i);
            due(n.end(0, 0, STATE), IN_SERVICE);
        }
        n.tick(1);
        due(n.end(0, 0, CREDIT), 6);
        due(n.end(0, 0, STATE), OUT);
        n.damage(0, 0, 20);
        n.tick(5);
        due(n.end(0, 0, CREDIT), 6);
    }

    private static void creditOfReady() {
        sentence(PART_2, "READY, IN SERVICE: the CREDIT (0 when it becomes READY)");
        Net n = still(1);
        n.activate(0, true);
        n.tick(5);
        n.damage(0, 0, 5);
        n.tick(5);
        due(n.end(0, 0, STATE), READY);
        due(n.end(0, 0, CREDIT), 5);
        due(n.end(0, 0, TIMER), 10);
        n.tick(1);
        due(n.end(0, 0, STATE), IN_SERVICE);
        due(n.end(0, 0, CREDIT), 5);
        Net m = still(1);
        m.activate(0, true);
        m.tick(5);
        m.damage(0, 0, 6);
        m.tick(6);
        due(m.end(0, 0, STATE), OUT);
        due(m.end(0, 0, CREDIT), 6);
        // READY anew five ticks behind starting, with all of it back.
        m.tick(16);
        due(m.end(0, 0, STATE), READY);
        due(m.end(0, 0, CREDIT), 0);
    }

    private static void creditEach16th() {
        sentence(PART_2, "Each 16th unit that arrives since it became READY .. makes it 1 less");
        Net n = pair(1);
        n.damage(0, 0, 2);
        tickTo(n, 68);
        due(n.end(0, 0, CREDIT), 2);
        n.tick(1);
        due(n.end(0, 0, CREDIT), 1);
        n.tick(15);
        due(n.end(0, 0, CREDIT), 1);
        n.tick(1);
        due(n.end(0, 0, CREDIT), 0);
        // READY anew it counts anew: in tick 105, so the 16th comes in 121.
        n.activate(0, false);
        tickTo(n, 100);
        n.activate(0, true);
        tickTo(n, 105);
        due(n.end(0, 0, STATE), READY);
        n.tick(5);
        n.damage(0, 0, 1);
        n.tick(10);
        due(n.end(0, 0, CREDIT), 1);
        n.tick(1);
        due(n.end(0, 0, CREDIT), 0);
        // And the units that came while READY count too: side 0 is READY in tick 5, IN SERVICE in 9.
        Net m = still(1);
        m.activate(0, true);
        m.tick(5);
        m.damage(0, 0, 3);
        m.tick(4);
        due(m.end(0, 0, STATE), IN_SERVICE);
        tickTo(m, 20);
        due(m.end(0, 0, CREDIT), 3);
        m.tick(1);
        due(m.end(0, 0, CREDIT), 2);
    }

    private static void creditNotBelow0() {
        sentence(PART_2, "makes it 1 less, if it is above 0");
        Net n = pair(1);
        tickTo(n, 150);
        due(n.end(0, 0, CREDIT), 0);
        // It takes six BAD ones to fail, as ever.
        n.damage(0, 0, 5);
        tickTo(n, 155);
        due(n.end(0, 0, CREDIT), 5 - (155 - 5) / 16 + (150 - 5) / 16);
        n.damage(0, 0, 1);
        n.tick(1);
        due(n.end(0, 0, STATE), OUT);
    }

    private static void creditCountedAhead() {
        sentence(PART_2, "(BAD or not; counted ahead of that)");
        // Five BAD ones in ticks 64 to 68; the sixth, in 69, is a 16th unit: 1 less first, then 1 more.
        Net n = pair(1);
        tickTo(n, 63);
        n.damage(0, 0, 6);
        n.tick(5);
        due(n.end(0, 0, CREDIT), 5);
        n.tick(1);
        due(n.end(0, 0, CREDIT), 5);
        due(n.end(0, 0, STATE), IN_SERVICE);
        // With none there is nothing to take away first.
        Net m = pair(1);
        tickTo(m, 68);
        m.damage(0, 0, 1);
        m.tick(1);
        due(m.end(0, 0, CREDIT), 1);
        tickTo(m, 85);
        due(m.end(0, 0, CREDIT), 0);
    }

    private static void inServiceFails() {
        sentence(PART_2, "IN SERVICE: SEEK, PROVE, STOP: it fails.");
        Net n = pair(1);
        n.damage(0, 0, 6);
        n.tick(6);
        due(n.end(0, 0, STATE), OUT);
        due(n.end(0, 1, STATE), IN_SERVICE);
        n.tick(1);
        due(n.end(0, 1, STATE), OUT);
        due(n.end(0, 1, TIMER), 11);
        // Five STOPs that are BAD don't let it fail, the sixth unit does, BAD or not.
        Net m = pair(1);
        m.damage(0, 0, 6);
        m.tick(6);
        m.damage(0, 1, 5);
        m.tick(2);
        due(m.end(0, 1, STATE), IN_SERVICE);
        m.tick(3);
        due(m.end(0, 1, CREDIT), 4);
        due(m.end(0, 1, STATE), IN_SERVICE);
        m.tick(1);
        due(m.end(0, 1, STATE), OUT);
    }

    // ---------------------------------------------------------------- PART 2: numbers

    /** pair(1) with so many messages sent by exchange 0: an even number of BLOCK and UNBLOCK and four CLOSED. */
    private static Net sentUpTo(int number) {
        Net n = pair(1);
        int left = number - 3;
        while (left > 0) {
            int now = Math.min(left, 60);
            give(n, 0, 1, 0, now);
            n.tick(now + 5);
            left -= now;
        }
        due(n.end(0, 0, SENT), number);
        due(n.end(0, 1, TAKEN), number);
        due(n.end(0, 0, UNACKNOWLEDGED), 0);
        return n;
    }

    private static void numbersBehind127() {
        sentence(PART_2, "NUMBERS are 0 to 127, 0 behind 127.");
        // SENT is 127 at first: the first message has number 0.
        Net m = still(1);
        m.activate(0, true);
        m.tick(5);
        due(m.end(0, 0, SENT), 127);
        m.tick(1);
        due(m.end(0, 0, SENT), 0);
        due(m.octet(0, 0, 1), 0 + 128);
        m.tick(1);
        due(m.end(0, 1, TAKEN), 0);
        Net n = sentUpTo(127);
        due(n.octet(0, 0, 1), 127 + 128);
        due(n.octet(0, 1, 0), 127 + 128);
        n.block(0, 1, 1, true);
        n.tick(1);
        due(n.end(0, 0, SENT), 0);
        due(n.octet(0, 0, 1), 0 + 128);
        n.tick(1);
        due(n.end(0, 1, TAKEN), 0);
        due(n.end(0, 1, BACKWARD), 1);
        due(n.circuit(1, 0, 1, 3), 1);
        n.tick(1);
        due(n.end(0, 0, UNACKNOWLEDGED), 0);
        due(n.end(0, 0, PATIENCE), 0);
    }

    private static void numbersAcknowledgedRoundTheEnd() {
        sentence(PART_2, "if its TAKEN is the number of one that is not acknowledged, this one and all ahead of it "
            + "are acknowledged");
        Net n = sentUpTo(125);
        give(n, 0, 1, 0, 4);
        n.tick(2);
        n.damage(0, 0, 2);
        n.tick(2);
        // 126, 127, 0 and 1 are sent, and nothing that was acknowledged came.
        due(n.end(0, 0, SENT), 1);
        due(n.end(0, 0, UNACKNOWLEDGED), 4);
        n.tick(1);
        // TAKEN 0 comes: it and the two ahead of it, 126 and 127.
        due(n.octet(0, 1, 0), 1 + 128);
        due(n.end(0, 0, UNACKNOWLEDGED), 1);
        due(n.end(0, 0, PATIENCE), 19);
        n.tick(1);
        due(n.end(0, 0, UNACKNOWLEDGED), 0);
        due(n.end(0, 0, PATIENCE), 0);
    }

    private static void numbersRepeatedRoundTheEnd() {
        sentence(PART_2, "it REPEATS, from the first not acknowledged on");
        Net n = sentUpTo(125);
        give(n, 0, 1, 0, 4);
        n.tick(1);
        n.damage(0, 1, 1);
        n.tick(2);
        due(n.end(0, 1, BACKWARD), 0);
        due(n.end(0, 0, UNACKNOWLEDGED), 3);
        int[] numbers = {126, 127, 0};
        for (int i = 0; i < 3; i++) {
            n.tick(1);
            due(n.octet(0, 0, 1), numbers[i]);
            due(n.end(0, 0, REPEATS), i < 2 ? 1 : 0);
            due(n.end(0, 0, SENT), 0);
            due(n.end(0, 1, TAKEN), 125 + i);
        }
        n.tick(1);
        due(n.octet(0, 0, 1), 1);
        due(n.end(0, 0, SENT), 1);
        due(n.end(0, 1, TAKEN), 0);
        n.tick(1);
        due(n.end(0, 1, TAKEN), 1);
        due(n.end(0, 1, BACKWARD), 0);
        n.tick(1);
        due(n.end(0, 0, UNACKNOWLEDGED), 0);
    }

    private static void numbersMissedRoundTheEnd() {
        sentence(PART_2, "A MESSAGE with the number behind TAKEN is taken .. Else BACKWARD becomes the other bit.");
        Net n = sentUpTo(127);
        give(n, 0, 1, 0, 2);
        n.tick(1);
        n.damage(0, 1, 1);
        n.tick(1);
        due(n.end(0, 1, BACKWARD), 1);
        int done = n.counted(DONE);
        // Message 0 was BAD; 1 is not the one behind 127, and isn't taken.
        n.tick(1);
        due(n.end(0, 1, TAKEN), 127);
        due(n.end(0, 1, BACKWARD), 0);
        due(n.counted(DONE), done);
        n.tick(4);
        due(n.end(0, 1, TAKEN), 1);
        due(n.end(0, 1, BACKWARD), 0);
        due(n.counted(DONE), done + 2);
    }

    private static void numbersOfFillsMissed() {
        sentence(PART_2, "A MESSAGE or FILL with TAKEN as number: nothing. Else BACKWARD becomes the other bit.");
        Net n = sentUpTo(127);
        n.tick(20);
        // FILLs with 127, which is TAKEN.
        due(n.end(0, 1, BACKWARD), 1);
        due(n.octet(0, 0, 2), 0);
        n.block(0, 1, 0, true);
        n.tick(1);
        n.damage(0, 1, 1);
        n.tick(1);
        due(n.octet(0, 0, 2), 0);
        due(n.octet(0, 0, 1), 0 + 128);
        n.tick(1);
        // A FILL with the number behind TAKEN: a message is missing.
        due(n.end(0, 1, TAKEN), 127);
        due(n.end(0, 1, BACKWARD), 0);
    }

    private static void windowGrows() {
        sentence(PART_2, "if one waits and fewer than 32 are not acknowledged, the first that waits");
        // A search over all that two ends can do (one unit a tick, BAD ones as the credits allow) finds
        // 14 at most that are not acknowledged; this is such a run. Side 0 is READY six ticks behind
        // side 1, so that each has a 16th unit (in ticks 75 and 69) when it can use it.
        Net n = still(1);
        n.activate(0, true);
        damageIn(n, 0, 0, 5, 7, 9);
        tickTo(n, 11);
        due(n.end(0, 0, STATE), READY);
        tickTo(n, 63);
        int sent = 3;
        due(n.end(0, 0, SENT), sent);
        give(n, 0, 1, 0, 20);
        n.tick(1);
        n.damage(0, 1, 6);
        tickTo(n, 71);
        due(n.end(0, 1, BACKWARD), 0);
        n.damage(0, 0, 6);
        for (int tick = 72; tick <= 77; tick++) {
            n.tick(1);
            due(n.end(0, 0, SENT), sent + tick - 63);
            due(n.end(0, 0, UNACKNOWLEDGED), tick - 63);
            due(n.end(0, 0, WAITING), 20 - (tick - 63));
        }
        due(n.end(0, 0, UNACKNOWLEDGED), 14);
        n.tick(1);
        due(n.end(0, 0, REPEATS), 1);
        due(n.octet(0, 0, 1), sent + 1);
        tickTo(n, 120);
        due(n.end(0, 0, SENT), sent + 20);
        due(n.end(0, 1, TAKEN), sent + 20);
        due(n.end(0, 0, UNACKNOWLEDGED), 0);
        due(n.counted(LOST), 0);
    }

    private static void repeatsFromFirstToLast() {
        sentence(PART_2, "while it REPEATS, the next of those not acknowledged, from the first to the last (then it "
            + "repeats no more)");
        Net n = pair(1);
        give(n, 0, 1, 0, 10);
        n.tick(1);
        n.damage(0, 1, 1);
        n.tick(2);
        // Messages 4, 5 and 6 went; 4 was BAD. Those that wait go behind the repeated ones.
        for (int i = 0; i < 3; i++) {
            n.tick(1);
            due(n.octet(0, 0, 1), 4 + i);
            due(n.end(0, 0, SENT), 6);
            due(n.end(0, 0, REPEATS), i < 2 ? 1 : 0);
            due(n.end(0, 0, WAITING), 7);
        }
        n.tick(1);
        due(n.octet(0, 0, 1), 7);
        due(n.end(0, 0, SENT), 7);
        due(n.end(0, 0, WAITING), 6);
        // Each is the same message as before: of circuits 3, 2, 1.
        Net k = pair(1);
        for (int c = 3; c >= 0; c--) {
            k.block(0, 1, c, true);
        }
        k.tick(1);
        k.damage(0, 1, 1);
        k.tick(2);
        for (int c = 3; c >= 0; c--) {
            k.tick(1);
            due(k.octet(0, 0, 1), (c == 0 ? 7 : 7 - c));
            due(k.octet(0, 0, 8), c);
        }
        // A single one is the first and the last.
        Net m = pair(1);
        m.block(0, 1, 0, true);
        m.tick(1);
        m.damage(0, 1, 1);
        m.tick(2);
        due(m.end(0, 0, REPEATS), 0);
        m.tick(1);
        due(m.octet(0, 0, 2), 8);
        due(m.octet(0, 0, 1), 4);
        due(m.end(0, 0, REPEATS), 0);
    }

    private static void acknowledgedWhileRepeating() {
        sentence(PART_2, "(if they were to be repeated, they aren't any more; without any left, it repeats no more)");
        // A search finds no run in which one is acknowledged that is still to be repeated; but the
        // next one to be repeated is the same, however many ahead of it are acknowledged at once.
        Net n = pair(1);
        give(n, 0, 1, 0, 10);
        n.tick(1);
        n.damage(0, 1, 1);
        n.tick(2);
        n.damage(0, 0, 3);
        n.tick(3);
        due(n.end(0, 0, UNACKNOWLEDGED), 6);
        int[] left = {6, 6, 5, 5, 3, 2, 2};
        for (int i = 0; i < 7; i++) {
            if (i == 3) {
                // TAKEN 5 is BAD, so TAKEN 6 acknowledges two.
                n.damage(0, 0, 1);
            }
            n.tick(1);
            due(n.octet(0, 0, 1), 4 + i);
            due(n.end(0, 0, REPEATS), i < 5 ? 1 : 0);
            due(n.end(0, 0, UNACKNOWLEDGED), left[i]);
        }
    }

    private static void acknowledgesNothing() {
        sentence(PART_2, "if its TAKEN is the number of one that is not acknowledged");
        // TAKEN 3, that of the latest acknowledged one, is none of them.
        Net n = pair(1);
        give(n, 0, 1, 0, 2);
        n.tick(1);
        due(n.end(0, 0, PATIENCE), 20);
        n.tick(1);
        due(n.end(0, 0, UNACKNOWLEDGED), 2);
        due(n.end(0, 0, PATIENCE), 19);
        n.tick(1);
        due(n.end(0, 0, UNACKNOWLEDGED), 1);
        n.tick(1);
        due(n.end(0, 0, UNACKNOWLEDGED), 0);
        n.tick(5);
        due(n.end(0, 0, UNACKNOWLEDGED), 0);
        due(n.end(0, 0, PATIENCE), 0);
    }

    private static void otherBitNothingMore() {
        sentence(PART_2, "Then, if its FORWARD is not the end's BACKWARD, nothing more.");
        Net n = pair(1);
        give(n, 0, 1, 0, 6);
        n.tick(1);
        n.damage(0, 1, 1);
        n.tick(2);
        due(n.end(0, 1, BACKWARD), 0);
        // Side 0 doesn't hear of it for four ticks: 6, 7, 8 and 9 come with the old bit.
        int done = n.counted(DONE);
        n.damage(0, 0, 4);
        for (int i = 0; i < 4; i++) {
            n.tick(1);
            due(n.end(0, 1, TAKEN), 3);
            due(n.end(0, 1, BACKWARD), 0);
            due(n.counted(DONE), done);
        }
        n.tick(1);
        due(n.end(0, 0, FORWARD), 0);
        due(n.octet(0, 0, 1), 4);
        n.tick(1);
        due(n.end(0, 1, TAKEN), 4);
        n.tick(5);
        due(n.end(0, 1, TAKEN), 9);
        due(n.end(0, 1, BACKWARD), 0);
        due(n.counted(DONE), done + 6);
    }

    // ---------------------------------------------------------------- PART 2: the timer of waiting

    private static void waitingTimerSet() {
        sentence(PART_2, "The timer of waiting is set to 20 when a message is sent anew and none was unacknowledged");
        Net n = pair(1);
        due(n.end(0, 0, PATIENCE), 0);
        give(n, 0, 1, 0, 2);
        due(n.end(0, 0, PATIENCE), 0);
        n.tick(1);
        due(n.end(0, 0, PATIENCE), 20);
        // The second is sent anew too, but one was unacknowledged.
        n.tick(1);
        due(n.end(0, 0, UNACKNOWLEDGED), 2);
        due(n.end(0, 0, PATIENCE), 19);
        // Repeating doesn't set it either.
        Net m = pair(1);
        m.block(0, 1, 0, true);
        m.tick(1);
        m.damage(0, 1, 1);
        m.tick(3);
        due(m.octet(0, 0, 2), 8);
        due(m.end(0, 0, PATIENCE), 17);
    }

    private static void waitingTimerPartly() {
        sentence(PART_2, "and when some, but not all were acknowledged");
        Net n = pair(1);
        give(n, 0, 1, 0, 3);
        n.tick(2);
        due(n.end(0, 0, PATIENCE), 19);
        n.tick(1);
        due(n.end(0, 0, UNACKNOWLEDGED), 2);
        due(n.end(0, 0, PATIENCE), 19);
        n.tick(1);
        due(n.end(0, 0, UNACKNOWLEDGED), 1);
        due(n.end(0, 0, PATIENCE), 19);
        n.tick(1);
        due(n.end(0, 0, UNACKNOWLEDGED), 0);
        due(n.end(0, 0, PATIENCE), 0);
    }

    private static void waitingTimerStops() {
        sentence(PART_2, "it stops when all were, and when the end fails");
        Net n = pair(1);
        n.block(0, 1, 0, true);
        n.tick(3);
        due(n.end(0, 0, PATIENCE), 0);
        n.tick(40);
        due(n.end(0, 0, STATE), IN_SERVICE);
        n.block(0, 1, 0, false);
        n.tick(1);
        due(n.end(0, 0, PATIENCE), 20);
        n.activate(0, false);
        due(n.end(0, 0, PATIENCE), 0);
        due(n.end(0, 0, UNACKNOWLEDGED), 1);
        // It doesn't run out later: the end is SEEKING by then, and stays so.
        n.activate(0, true);
        n.tick(12);
        due(n.end(0, 0, STATE), SEEKING);
        n.tick(20);
        due(n.end(0, 0, STATE), IN_SERVICE);
    }

    private static void waitingTimerOut() {
        sentence(PART_2, "OUT: it fails");
        // The message goes in tick 61: it is BAD in 62, and when it is repeated in 69, 72, 75 and 78.
        Net n = pair(1);
        n.block(0, 1, 0, true);
        n.tick(1);
        due(n.end(0, 0, PATIENCE), 20);
        damageIn(n, 0, 1, 62);
        n.tick(1);
        n.damage(0, 0, 5);
        damageIn(n, 0, 1, 70, 73, 76, 79);
        n.tick(1);
        due(n.end(0, 0, STATE), IN_SERVICE);
        due(n.end(0, 1, STATE), IN_SERVICE);
        due(n.end(0, 0, PATIENCE), 1);
        due(n.end(0, 0, UNACKNOWLEDGED), 1);
        n.tick(1);
        due(n.end(0, 0, STATE), OUT);
        due(n.end(0, 0, TIMER), 12);
        due(n.end(0, 0, PATIENCE), 0);
        due(n.flow(0, 1, 0, 1), 1);
        // The same, but the last repetition comes through: TAKEN 4 arrives in tick 80.
        Net m = pair(1);
        m.block(0, 1, 0, true);
        m.tick(1);
        damageIn(m, 0, 1, 62);
        m.tick(1);
        m.damage(0, 0, 5);
        damageIn(m, 0, 1, 70, 73, 76);
        m.tick(4);
        due(m.end(0, 0, UNACKNOWLEDGED), 0);
        due(m.end(0, 0, PATIENCE), 0);
        m.tick(1);
        due(m.end(0, 0, STATE), IN_SERVICE);
    }
}
