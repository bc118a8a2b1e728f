/** The boundary cases that PART 3 of the Terms names: one test for each sentence. */
public final class ExchangeBoundaryTest extends Boundaries {
    /** Where the sentences stand, and the promises by which they are seen. */
    private static final String PART_3 = "Promises 7, 15, 16 and 19, PART 3";

    /** What flow() is asked for. */
    private static final int CURRENT = 0;
    private static final int HELD = 1;
    private static final int KEPT = 2;
    private static final int CHANGEOVER = 3;

    public static void main(String[] args) {
        flowsAtFirst();
        bestByNumber();
        bestRound();
        bestNone();
        keptSixtyFive();
        keptForAChangeback();
        waitingSixtyFive();
        routedNowhere();
        routedBySecond();
        hopsSeven();
        hopsEight();
        upOfHeldFlows();
        upBackWhenFull();
        upCountsChangebacks();
        upToldAnew();
        upToldStays();
        upToldStaysWhenHeld();
        changeoverTimer();
        changeoverOfOneLink();
        changeoverOfTwoLinks();
        changeoverAnsweredLast();
        changeoverOfNoService();
        overUnlessBecauseOfOver();
        otherWayFull();
        otherWayByOthers();
        otherWayNone();
        overOfAnotherLife();
        overedOfAnotherLife();
        overOfLifeRoundTheEnd();
        endsWithTheLast();
        endsWithOneOfThem();
        endsWithNoneOfThem();
        endsRoundTheEnd();
        endsWithoutANumber();
        endsByKinds();
        endsWithoutBacks();
        endsWithoutBacksThoughOpen();
        endsInOrder();
        endsInOrderUpToSixtyFour();
        backedWhenFull();
        backedOfAnotherNumber();
        backedNotHeld();
        backedGivesUpToSixtyFour();
        backAgain();
        backAgainWhenFull();
        nextNeedsFlowZero();
        toldNothingAtFirst();
        toldOnce();
        toldThoughLost();
        toldBehindAChangeover();
        toldOnAndOn();
        toldClosedIfItIsNext();
        finish("boundaries of exchanges");
    }

    // ---------------------------------------------------------------- flows and BEST

    private static void flowsAtFirst() {
        sentence(PART_3, "each with its CURRENT link, or none (at first), and perhaps HELD");
        Net n = still(2);
        n.activate(0, true);
        n.tick(5);
        for (int s = 0; s < 4; s++) {
            due(n.flow(0, 1, s, CURRENT), NONE);
            due(n.flow(0, 1, s, HELD), 0);
            due(n.flow(0, 1, s, KEPT), 0);
        }
        n.tick(1);
        for (int s = 0; s < 4; s++) {
            due(n.flow(0, 1, s, CURRENT), 0);
        }
    }

    private static void bestByNumber() {
        sentence(PART_3, "BEST for flow s, in a set of n links: the (s mod n)-th by number (from 0 on)");
        for (int links = 1; links <= 4; links++) {
            Net n = pair(links);
            for (int s = 0; s < 4; s++) {
                due(n.flow(0, 1, s, CURRENT), s % links);
                due(n.flow(1, 0, s, CURRENT), s % links);
            }
        }
        // By number within the set: links 1 and 3 are those between 0 and 1.
        Net n = new Net();
        n.link(1, 2);
        n.link(0, 1);
        n.link(1, 2);
        n.link(1, 0);
        for (int i = 0; i < 4; i++) {
            n.activate(i, true);
        }
        n.tick(60);
        for (int s = 0; s < 4; s++) {
            due(n.flow(0, 1, s, CURRENT), s % 2 == 0 ? 1 : 3);
            due(n.flow(1, 2, s, CURRENT), s % 2 == 0 ? 0 : 2);
        }
    }

    private static void bestRound() {
        sentence(PART_3, "if it is IN SERVICE at this exchange, else the next of the set by numbers, round, that is");
        Net n = pair(4);
        n.activate(3, false);
        n.tick(5);
        due(n.flow(0, 1, 3, CURRENT), 0);
        due(n.flow(0, 1, 2, CURRENT), 2);
        n.activate(0, false);
        n.tick(5);
        due(n.flow(0, 1, 3, CURRENT), 1);
        due(n.flow(0, 1, 0, CURRENT), 1);
        n.activate(1, false);
        n.tick(5);
        for (int s = 0; s < 4; s++) {
            due(n.flow(0, 1, s, CURRENT), 2);
            due(n.flow(1, 0, s, CURRENT), 2);
        }
        due(n.counted(LOST), 0);
        // The next by numbers, not the lowest.
        Net m = pair(4);
        m.activate(1, false);
        m.tick(5);
        due(m.flow(0, 1, 1, CURRENT), 2);
        m.activate(2, false);
        m.tick(5);
        due(m.flow(0, 1, 1, CURRENT), 3);
        due(m.flow(0, 1, 2, CURRENT), 3);
        due(m.flow(0, 1, 0, CURRENT), 0);
    }

    private static void bestNone() {
        sentence(PART_3, "or none");
        Net n = pair(2);
        n.activate(0, false);
        n.activate(1, false);
        n.tick(10);
        for (int s = 0; s < 4; s++) {
            due(n.flow(0, 1, s, CURRENT), NONE);
            due(n.flow(0, 1, s, HELD), 0);
        }
        due(n.next(0, 1, 0), NONE);
    }

    // ---------------------------------------------------------------- giving and routing

    private static void keptSixtyFive() {
        sentence(PART_3, "a 65th that is kept .. is LOST");
        Net n = pair(1);
        n.activate(0, false);
        // The two OVERs have no way.
        due(n.counted(LOST), 2);
        give(n, 0, 1, 2, 64);
        due(n.flow(0, 1, 2, KEPT), 64);
        due(n.counted(LOST), 2);
        n.block(0, 1, 2, true);
        due(n.flow(0, 1, 2, KEPT), 64);
        due(n.counted(LOST), 3);
        // Each flow keeps its own 64.
        give(n, 0, 1, 3, 65);
        due(n.flow(0, 1, 3, KEPT), 64);
        due(n.flow(1, 0, 3, KEPT), 0);
        due(n.counted(LOST), 4);
    }

    private static void keptForAChangeback() {
        sentence(PART_3, "it is kept if that is held");
        Net n = second();
        n.tick(11);
        due(n.flow(0, 1, 1, HELD), 2);
        give(n, 0, 1, 1, 64);
        due(n.flow(0, 1, 1, KEPT), 64);
        due(n.counted(LOST), 0);
        n.block(0, 1, 1, true);
        due(n.flow(0, 1, 1, KEPT), 64);
        due(n.counted(LOST), 1);
    }

    private static void waitingSixtyFive() {
        sentence(PART_3, "a 65th that .. waits there, is LOST");
        Net n = pair(2);
        // Flows 0 and 2 share link 0, flow 1 has link 1.
        give(n, 0, 1, 0, 32);
        give(n, 0, 1, 2, 32);
        due(n.end(0, 0, WAITING), 64);
        due(n.counted(LOST), 0);
        n.block(0, 1, 2, true);
        due(n.end(0, 0, WAITING), 64);
        due(n.counted(LOST), 1);
        give(n, 0, 1, 1, 64);
        due(n.end(1, 0, WAITING), 64);
        due(n.counted(LOST), 1);
        // One goes, so there is room for one.
        n.tick(1);
        due(n.end(0, 0, WAITING), 63);
        n.block(0, 1, 2, false);
        due(n.end(0, 0, WAITING), 64);
        due(n.counted(LOST), 1);
        n.block(0, 1, 2, true);
        due(n.counted(LOST), 2);
        // Those that are not acknowledged don't count among them.
        due(n.end(0, 0, UNACKNOWLEDGED), 1);
    }

    private static void routedNowhere() {
        sentence(PART_3, "else it is LOST");
        Net n = triangle();
        n.route(0, 1, NONE, NONE);
        n.block(0, 1, 0, true);
        due(n.counted(LOST), 1);
        // Told, but no neighbour; told, but without an open flow.
        n.route(0, 1, 3, 4);
        n.block(0, 1, 0, false);
        due(n.counted(LOST), 2);
        n.link(0, 3);
        n.block(0, 1, 0, true);
        due(n.counted(LOST), 3);
    }

    private static void routedBySecond() {
        sentence(PART_3, "that is not PROHIBITED for d, and its flow is open; else of the second likewise");
        Net n = triangle();
        n.route(0, 1, 2, 1);
        n.tick(5);
        int at1 = n.end(0, 0, SENT);
        int at2 = n.end(2, 0, SENT);
        n.block(0, 1, 0, true);
        n.tick(1);
        due(n.end(2, 0, SENT), at2 + 1);
        // 2 can't reach 1 itself any more, and says so: 2 is prohibited for 1 at 0.
        n.route(2, 1, NONE, NONE);
        n.tick(2);
        due(n.next(0, 1, 12), 1);
        at1 = n.end(0, 0, SENT);
        n.block(0, 1, 0, false);
        n.tick(1);
        due(n.end(0, 0, SENT), at1 + 1);
        // The second is prohibited too, or has no open flow: LOST.
        n.activate(0, false);
        n.tick(12);
        int lost = n.counted(LOST);
        n.block(0, 1, 0, true);
        due(n.counted(LOST), lost + 1);
    }

    /** 0 to 3 in a ring, for 4 each asks the next; 4 is a neighbour of 0 and of 3. */
    private static Net ring() {
        Net n = new Net();
        for (int i = 0; i < 4; i++) {
            n.link(i, (i + 1) % 4);
        }
        n.link(0, 4);
        n.link(3, 4);
        for (int i = 0; i < 6; i++) {
            n.activate(i, true);
        }
        n.tick(60);
        // In this order: each believes the next to have a way, till 0 closes the ring.
        int[][] told = {{0, 4}, {3, 0}, {2, 3}, {1, 2}, {0, 1}};
        for (int[] way : told) {
            n.route(way[0], 4, way[1], NONE);
            n.tick(5);
        }
        for (int i = 0; i < 4; i++) {
            due(n.next(i, 4, 0), (i + 1) % 4);
        }
        return n;
    }

    private static void hopsSeven() {
        sentence(PART_3, "An exchange GETS a message: if it is for it, it is done .. else its HOPS rise by 1, and it "
            + "is routed");
        Net n = ring();
        int done = n.counted(DONE);
        n.block(0, 4, 0, true);
        // From 0 round to 3, where it is for the second time in tick 8: then by 4 itself.
        n.tick(7);
        due(n.counted(DONE), done);
        n.route(3, 4, 4, NONE);
        n.tick(1);
        due(n.octet(5, 0, 3), 13);
        due(n.octet(5, 0, 10), 7);
        n.tick(1);
        due(n.circuit(4, 0, 0, 3), 1);
        due(n.counted(LOST), 0);
    }

    private static void hopsEight() {
        sentence(PART_3, "with the eighth it is LOST");
        Net n = ring();
        int done = n.counted(DONE);
        n.block(0, 4, 0, true);
        for (int hops = 0; hops < 8; hops++) {
            n.tick(1);
            int link = hops % 4;
            due(n.octet(link, link == 3 ? 1 : 0, 3), 13);
            due(n.octet(link, link == 3 ? 1 : 0, 10), hops);
            due(n.counted(LOST), 0);
        }
        n.tick(1);
        due(n.counted(LOST), 1);
        due(n.octet(0, 0, 2), 0);
        due(n.counted(DONE), done);
        due(n.circuit(4, 0, 0, 3), 0);
    }

    // ---------------------------------------------------------------- UP

    private static void upOfHeldFlows() {
        sentence(PART_3, "UP of a link, at an exchange: each flow of its set, by number, that is not held");
        // Link 0 fails in tick 70, the flows are held for its changeover till 80; link 1 is UP in 71.
        Net n = second();
        n.tick(10);
        n.activate(0, false);
        n.tick(1);
        due(n.end(1, 0, STATE), IN_SERVICE);
        for (int s = 0; s < 4; s++) {
            due(n.flow(0, 1, s, CURRENT), NONE);
            due(n.flow(0, 1, s, HELD), 1);
        }
        n.tick(8);
        due(n.flow(0, 1, 1, HELD), 1);
        n.tick(1);
        due(n.flow(0, 1, 1, HELD), 0);
        due(n.flow(0, 1, 1, CURRENT), 1);
    }

    private static void upBackWhenFull() {
        sentence(PART_3, "a BACK .. is given to it, and then it is HELD for a changeback, timer 20");
        Net n = second();
        n.tick(10);
        give(n, 0, 1, 0, 64);
        n.tick(1);
        // The BACK of flow 1 is the 65th that waits, that of flow 3 too: LOST, but they are held.
        due(n.counted(LOST), 2);
        due(n.end(0, 0, WAITING), 63);
        due(n.flow(0, 1, 1, HELD), 2);
        due(n.flow(0, 1, 3, HELD), 2);
        due(n.flow(0, 1, 1, CURRENT), 0);
        due(n.flow(0, 1, 0, HELD), 0);
    }

    private static void upCountsChangebacks() {
        sentence(PART_3, "how many changebacks that flow began, this one too, modulo 256");
        Net n = pair(3);
        // Links 0 and 1 fail in the 6th tick, flow 0 goes by 2. Link 1 is UP in the 28th; link 0, which
        // hears nothing for 30 ticks, in the 40th: two changebacks of flow 0 each time.
        for (int i = 1; i < 128; i++) {
            n.damage(0, 0, 30);
            n.damage(1, 0, 6);
            n.tick(60);
        }
        due(n.flow(0, 1, 0, CURRENT), 0);
        n.damage(0, 0, 30);
        n.damage(1, 0, 6);
        n.tick(28);
        // The BACK of flow 0 is the first of those that are given to link 2.
        dueBack(n, 2, 255);
        n.tick(12);
        dueBack(n, 1, 0);
        due(n.flow(0, 1, 0, HELD), 2);
        n.tick(5);
        due(n.flow(0, 1, 0, HELD), 0);
        due(n.flow(0, 1, 0, CURRENT), 0);
        n.tick(15);
        n.damage(0, 0, 30);
        n.damage(1, 0, 6);
        n.tick(28);
        dueBack(n, 2, 1);
        due(n.flow(0, 1, 0, HELD), 2);
        n.tick(5);
        due(n.flow(0, 1, 0, HELD), 0);
        due(n.flow(0, 1, 0, CURRENT), 1);
        due(n.counted(LOST), 0);
    }

    private static void dueBack(Net n, int link, int number) {
        due(n.octet(link, 0, 3), 3);
        due(n.octet(link, 0, 8), 0);
        due(n.octet(link, 0, 9), number);
    }

    private static void upToldAnew() {
        sentence(PART_3, "If none of the four was open ahead of all that, nothing counts as TOLD to the neighbour");
        Net n = pair(1);
        int done = n.counted(DONE);
        n.activate(0, false);
        n.tick(12);
        due(n.next(0, 2, 21), 1);
        n.activate(0, true);
        n.tick(5);
        due(n.next(0, 2, 21), 1);
        n.tick(10);
        // CLOSED of 2 to 5, both ways, though it was so before.
        due(n.end(0, 0, SENT), 3);
        due(n.counted(DONE), done + 8);
    }

    private static void upToldStays() {
        sentence(PART_3, "If none of the four was open ahead of all that");
        // All four are open: link 1 brings two BACKs and two BACKEDs each way, nothing else.
        Net n = second();
        int done = n.counted(DONE);
        n.tick(40);
        due(n.counted(DONE), done + 8);
        due(n.counted(KIND), 4);
        due(n.end(0, 0, SENT), 3 + 4);
        due(n.end(1, 0, SENT), 127);
    }

    private static void upToldStaysWhenHeld() {
        sentence(PART_3, "A flow is OPEN if it has a current link or is held.");
        // The flows are held when link 1 is UP, so they are open, and nothing is told anew.
        Net n = second();
        n.tick(10);
        n.activate(0, false);
        due(n.next(0, 1, 0), 1);
        n.tick(30);
        due(n.flow(0, 1, 0, CURRENT), 1);
        due(n.end(1, 0, SENT), 127);
        due(n.next(0, 2, 21), 1);
    }

    // ---------------------------------------------------------------- changeovers

    private static void changeoverTimer() {
        sentence(PART_3, "a CHANGEOVER of it is under way, timer 10 .. Timer OUT: it ends without a number.");
        Net n = pair(1);
        n.activate(0, false);
        due(n.flow(0, 1, 0, HELD), 1);
        due(n.flow(0, 1, 0, CHANGEOVER), 0);
        n.tick(9);
        due(n.flow(0, 1, 0, HELD), 1);
        n.tick(1);
        due(n.flow(0, 1, 0, HELD), 0);
        due(n.flow(0, 1, 0, CHANGEOVER), NONE);
        // Failed by what arrived, in tick 66: the looking of that tick is the first of ten.
        Net m = pair(1);
        m.damage(0, 0, 6);
        m.tick(6);
        due(m.flow(0, 1, 0, HELD), 1);
        tickTo(m, 74);
        due(m.flow(0, 1, 0, HELD), 1);
        m.tick(1);
        due(m.flow(0, 1, 0, HELD), 0);
        // Exchange 1 failed a tick later, by the STOP.
        due(m.flow(1, 0, 0, HELD), 1);
        m.tick(1);
        due(m.flow(1, 0, 0, HELD), 0);
    }

    private static void changeoverOfOneLink() {
        sentence(PART_3, "the flows of its set with it as current link (also those that are held for a changeback, "
            + "which ends) are HELD for it, without a current link");
        Net n = pair(2);
        n.activate(1, false);
        for (int s = 0; s < 4; s++) {
            due(n.flow(0, 1, s, HELD), s % 2);
            due(n.flow(0, 1, s, CURRENT), s % 2 == 0 ? 0 : NONE);
            due(n.flow(0, 1, s, CHANGEOVER), s % 2 == 0 ? NONE : 1);
        }
        // In tick 71 flows 1 and 3 are held for a changeback, with link 0 as current link: all four.
        Net m = second();
        m.tick(11);
        due(m.flow(0, 1, 1, HELD), 2);
        m.activate(0, false);
        for (int s = 0; s < 4; s++) {
            due(m.flow(0, 1, s, HELD), 1);
            due(m.flow(0, 1, s, CURRENT), NONE);
            due(m.flow(0, 1, s, CHANGEOVER), 0);
        }
        // Held for a changeback to link 1, which fails: it isn't the current one, they go on waiting.
        Net k = second();
        k.tick(11);
        k.activate(1, false);
        due(k.flow(0, 1, 1, HELD), 2);
        due(k.flow(0, 1, 1, CURRENT), 0);
        // Exchange 1 sends its BACK of flow 3, the OVER, and in tick 74 the BACKED of flow 1.
        k.tick(3);
        due(k.octet(0, 1, 3), 4);
        due(k.flow(0, 1, 1, HELD), 2);
        k.tick(1);
        due(k.flow(0, 1, 1, HELD), 0);
        due(k.flow(0, 1, 1, CURRENT), 0);
    }

    private static void changeoverOfTwoLinks() {
        sentence(PART_3, "The flows that are held for it are held no more, and have BEST as current link, or none.");
        Net n = pair(2);
        n.activate(0, false);
        n.tick(1);
        n.activate(1, false);
        n.tick(8);
        for (int s = 0; s < 4; s++) {
            due(n.flow(0, 1, s, HELD), 1);
            due(n.flow(0, 1, s, CHANGEOVER), s % 2);
        }
        // That of link 0 is out in tick 70, that of link 1 a tick later.
        n.tick(1);
        for (int s = 0; s < 4; s++) {
            due(n.flow(0, 1, s, HELD), s % 2);
            due(n.flow(0, 1, s, CURRENT), NONE);
            due(n.flow(0, 1, s, CHANGEOVER), s % 2 == 0 ? NONE : 1);
        }
        n.tick(1);
        due(n.flow(0, 1, 1, HELD), 0);
        due(n.flow(0, 1, 1, CURRENT), NONE);
    }

    /**
     * Link 1 fails at exchange 0 in tick 66 with a BLOCK that exchange 1 took and that isn't
     * acknowledged. The OVER by link 0 comes in 67, ahead of the STOP; so many messages wait there
     * ahead of the OVERED.
     */
    private static Net overedBehind(int messages) {
        Net n = pair(2);
        n.damage(1, 0, 6);
        n.tick(2);
        n.block(0, 1, 1, true);
        n.tick(4);
        due(n.end(1, 0, STATE), OUT);
        due(n.end(1, 0, UNACKNOWLEDGED), 1);
        due(n.end(1, 1, TAKEN), 0);
        due(n.flow(0, 1, 1, CHANGEOVER), 1);
        give(n, 1, 0, 0, messages);
        n.tick(1);
        due(n.end(1, 1, STATE), OUT);
        due(n.end(0, 1, WAITING), messages);
        return n;
    }

    private static void changeoverAnsweredLast() {
        sentence(PART_3, "OVERED (of l, r): .. it ends with r. Timer OUT: it ends without a number.");
        // Till the looking of tick 75. Behind seven the OVERED goes in 74: it arrives ahead of that.
        Net n = overedBehind(7);
        n.tick(7);
        due(n.octet(0, 1, 3), 2);
        due(n.flow(0, 1, 1, HELD), 1);
        n.tick(1);
        due(n.flow(0, 1, 1, HELD), 0);
        due(n.counted(KIND), 2);
        due(n.end(1, 0, UNACKNOWLEDGED), 0);
        due(n.counted(LOST), 0);
        // Behind eight it is too late: what isn't acknowledged is LOST, and the OVERED brings nothing.
        Net m = overedBehind(8);
        m.tick(8);
        due(m.octet(0, 1, 3), 2);
        due(m.flow(0, 1, 1, HELD), 0);
        due(m.flow(0, 1, 1, CURRENT), 0);
        due(m.counted(LOST), 1);
        m.tick(1);
        due(m.counted(KIND), 2);
        due(m.flow(0, 1, 1, CURRENT), 0);
        due(m.counted(LOST), 1);
    }

    private static void changeoverOfNoService() {
        sentence(PART_3, "An end that was IN SERVICE FAILS");
        Net n = still(1);
        n.activate(0, true);
        n.tick(5);
        due(n.end(0, 0, STATE), READY);
        n.activate(0, false);
        due(n.counted(LOST), 0);
        due(n.flow(0, 1, 0, HELD), 0);
        n.activate(0, true);
        n.tick(17);
        due(n.end(0, 0, STATE), IN_SERVICE);
        n.activate(0, false);
        due(n.counted(LOST), 2);
        due(n.flow(0, 1, 0, HELD), 1);
    }

    private static void overUnlessBecauseOfOver() {
        sentence(PART_3, "unless it failed because of an OVER that the exchange got");
        Net n = overedBehind(0);
        // Exchange 1 sent the OVERED alone.
        due(n.octet(0, 1, 3), 2);
        due(n.octet(0, 1, 8), 1 + 16);
        due(n.octet(0, 1, 9), 0);
        due(n.end(0, 1, WAITING), 0);
        n.tick(1);
        due(n.octet(0, 1, 2), 0);
        due(n.flow(0, 1, 1, CURRENT), 0);
        due(n.flow(1, 0, 1, CURRENT), 0);
    }

    private static void otherWayFull() {
        sentence(PART_3, "it waits there (as given, a 65th LOST)");
        Net n = pair(2);
        give(n, 0, 1, 0, 64);
        n.activate(1, false);
        due(n.end(0, 0, WAITING), 64);
        due(n.end(0, 1, WAITING), 1);
        due(n.counted(LOST), 1);
        // With 63 there is room for it.
        Net m = pair(2);
        give(m, 0, 1, 0, 63);
        m.activate(1, false);
        due(m.end(0, 0, WAITING), 64);
        due(m.counted(LOST), 0);
        // An OVERED, when exchange 1 gets the OVER in tick 67.
        Net k = pair(2);
        k.damage(1, 0, 6);
        k.tick(6);
        give(k, 1, 0, 0, 64);
        k.tick(1);
        due(k.end(1, 1, STATE), OUT);
        due(k.counted(LOST), 1);
        due(k.end(0, 1, WAITING), 63);
    }

    private static void otherWayByOthers() {
        sentence(PART_3, "else it is routed to the neighbour, by others than the neighbour itself");
        Net n = triangle();
        n.activate(0, false);
        // The held flow to 1 is open, and 1 is told first for itself, but that isn't the other way.
        due(n.flow(0, 1, 0, KEPT), 0);
        due(n.end(2, 0, WAITING), 1);
        due(n.end(1, 0, WAITING), 1);
        due(n.counted(LOST), 0);
        n.tick(2);
        due(n.octet(2, 1, 3), 1);
        due(n.octet(2, 1, 10), 1);
        n.tick(1);
        due(n.flow(0, 1, 0, HELD), 0);
    }

    private static void otherWayNone() {
        sentence(PART_3, "The OTHER WAY to a neighbour: the lowest link of the set IN SERVICE here");
        Net n = pair(1);
        n.activate(0, false);
        due(n.counted(LOST), 2);
        due(n.flow(0, 1, 0, KEPT), 0);
        // The lowest that is in service: link 0 is out, so the OVER of 1 goes by link 2, not by 3.
        Net m = pair(4);
        m.activate(0, false);
        m.tick(5);
        m.activate(1, false);
        due(m.end(2, 0, WAITING), 1);
        due(m.end(3, 0, WAITING), 0);
        due(m.counted(LOST), 0);
    }

    /**
     * The triangle at tick 100: link 0 failed in tick 60 and is in service again, in its second
     * life; the OVER and the OVERED that exchange 0 sent then are stuck at exchange 2, behind 42
     * messages for 1: they come to 1 in ticks 104 and 105.
     */
    private static Net lateOver() {
        Net n = triangle();
        give(n, 2, 1, 0, 42);
        n.activate(0, false);
        n.activate(0, true);
        n.tick(40);
        due(n.end(0, 1, STATE), IN_SERVICE);
        due(n.end(0, 1, PEER), 2);
        return n;
    }

    private static void overOfAnotherLife() {
        sentence(PART_3, "if the LIFE that it bears is not the PEER of the own end of l, nothing");
        Net n = lateOver();
        n.tick(3);
        due(n.octet(1, 1, 3), 1);
        due(n.octet(1, 1, 8), 16);
        int sent = n.end(1, 0, SENT);
        n.tick(1);
        due(n.counted(KIND), 1);
        due(n.end(0, 1, STATE), IN_SERVICE);
        due(n.flow(1, 0, 0, CURRENT), 0);
        due(n.flow(1, 0, 0, HELD), 0);
        n.tick(1);
        due(n.counted(KIND), 2);
        due(n.end(0, 1, STATE), IN_SERVICE);
        // No OVERED went.
        due(n.end(1, 0, SENT), sent);
        due(n.end(1, 0, WAITING), 0);
    }

    private static void overedOfAnotherLife() {
        sentence(PART_3, "OVERED (of l, r): with another LIFE than the PEER likewise nothing");
        Net n = lateOver();
        // Its second changeover, whose OVER has to wait behind 20 more.
        give(n, 2, 1, 0, 20);
        n.activate(0, false);
        n.tick(4);
        due(n.octet(1, 1, 3), 2);
        due(n.octet(1, 1, 8), 16);
        due(n.flow(1, 0, 0, HELD), 1);
        n.tick(1);
        due(n.flow(1, 0, 0, HELD), 1);
        due(n.flow(1, 0, 0, CHANGEOVER), 0);
        n.tick(4);
        due(n.flow(1, 0, 0, HELD), 1);
        n.tick(1);
        due(n.flow(1, 0, 0, HELD), 0);
    }

    private static void overOfLifeRoundTheEnd() {
        sentence(PART_3, "and an OVER (the link and 16 times the end's LIFE, its TAKEN) goes the other way");
        // Lives 14, 15, 0, 1 of link 1: each OVER is understood, and answered.
        Net n = pair(2);
        for (int life = 1; life <= 17; life++) {
            due(n.end(1, 0, LIFE), life % 16);
            due(n.end(1, 0, PEER), life % 16);
            n.damage(1, 0, 6);
            n.tick(6);
            due(n.end(1, 0, STATE), OUT);
            due(n.octet(0, 0, 3), 1);
            due(n.octet(0, 0, 8), 1 + 16 * (life % 16));
            n.tick(1);
            due(n.octet(0, 1, 3), 2);
            due(n.octet(0, 1, 8), 1 + 16 * (life % 16));
            n.tick(1);
            due(n.flow(0, 1, 1, HELD), 0);
            n.tick(52);
            due(n.end(1, 0, STATE), IN_SERVICE);
        }
        due(n.counted(LOST), 0);
    }

    // ---------------------------------------------------------------- the end of a changeover

    /**
     * Link 1 fails at exchange 0 in tick 66: a message that goes in tick t arrives in t + 1, and no
     * acknowledgement of those behind tick 60 is heard. Gives a message in each tick from 61 on,
     * and damages at side 1 those that arrive behind the first so many.
     */
    private static Net changeoverWith(Net n, int messages, int taken) {
        n.damage(1, 0, 6);
        for (int i = 0; i < messages; i++) {
            n.block(0, 1, 1, i % 2 == 0);
            n.tick(1);
            if (i >= taken) {
                n.damage(1, 1, 1);
            }
        }
        n.tick(6 - messages);
        due(n.end(1, 0, STATE), OUT);
        due(n.end(1, 0, UNACKNOWLEDGED), messages);
        return n;
    }

    private static void endsWithTheLast() {
        sentence(PART_3, "with a number, those not acknowledged at this end up to that one, if it is one of them, "
            + "are acknowledged");
        Net n = changeoverWith(pair(2), 3, 3);
        due(n.end(1, 1, TAKEN), 2);
        int sent = n.end(0, 0, SENT);
        n.tick(2);
        due(n.flow(0, 1, 1, HELD), 0);
        due(n.end(1, 0, UNACKNOWLEDGED), 0);
        n.tick(10);
        // All three were there: nothing was given again.
        due(n.end(0, 0, SENT), sent);
        due(n.counted(LOST), 0);
    }

    private static void endsWithOneOfThem() {
        sentence(PART_3, "up to that one .. Then what is not acknowledged, in order, .. is given to its flow");
        Net n = changeoverWith(pair(2), 3, 1);
        due(n.end(1, 1, TAKEN), 0);
        int sent = n.end(0, 0, SENT);
        n.tick(2);
        due(n.end(1, 0, UNACKNOWLEDGED), 0);
        // Some were acknowledged, but the end has failed: its timer of waiting stays as it is, none.
        due(n.end(1, 0, PATIENCE), 0);
        n.tick(1);
        // The second, an UNBLOCK, and the third, a BLOCK, go by link 0, in order.
        due(n.octet(0, 0, 3), 13);
        due(n.end(0, 0, SENT), sent + 2);
        n.tick(10);
        due(n.end(0, 0, SENT), sent + 2);
        due(n.circuit(1, 0, 1, 3), 1);
        due(n.counted(LOST), 0);
    }

    private static void endsWithNoneOfThem() {
        sentence(PART_3, "if it is one of them");
        // Nothing was taken: TAKEN is 127, the numbers are 0, 1 and 2.
        Net n = changeoverWith(pair(2), 3, 0);
        due(n.end(1, 1, TAKEN), 127);
        int sent = n.end(0, 0, SENT);
        n.tick(12);
        due(n.end(1, 0, UNACKNOWLEDGED), 0);
        due(n.end(0, 0, SENT), sent + 3);
        due(n.circuit(1, 0, 1, 3), 1);
        due(n.counted(LOST), 0);
    }

    private static void endsRoundTheEnd() {
        sentence(PART_3, "those not acknowledged at this end up to that one");
        // 126 messages went by link 1, numbers 0 to 125: the next are 126, 127, 0 and 1.
        Net n = pair(2);
        for (int i = 0; i < 3; i++) {
            give(n, 0, 1, 1, 42);
            n.tick(50);
        }
        due(n.end(1, 0, SENT), 125);
        // READY in tick 5: a 16th unit comes in tick 213, which would save it; so behind that.
        tickTo(n, 214);
        changeoverWith(n, 4, 3);
        due(n.end(1, 0, SENT), 1);
        due(n.end(1, 1, TAKEN), 0);
        int sent = n.end(0, 0, SENT);
        n.tick(12);
        due(n.end(0, 0, SENT), sent + 1);
        due(n.circuit(1, 0, 1, 3), 0);
        due(n.counted(LOST), 0);
    }

    private static void endsWithoutANumber() {
        sentence(PART_3, "without, all of them are LOST");
        // No OVER gets through in time: at exchange 2 they wait behind 30 messages, both ways.
        Net n = triangle();
        give(n, 2, 0, 0, 30);
        give(n, 2, 1, 0, 30);
        n.block(0, 1, 0, true);
        n.block(0, 1, 1, true);
        n.tick(1);
        n.activate(0, false);
        due(n.end(0, 0, UNACKNOWLEDGED), 1);
        due(n.end(0, 0, WAITING), 1);
        n.block(0, 1, 2, true);
        due(n.flow(0, 1, 2, KEPT), 1);
        n.tick(9);
        due(n.counted(LOST), 0);
        due(n.end(0, 0, UNACKNOWLEDGED), 1);
        n.tick(1);
        // The one that was sent; what waits, and what was kept, goes by 2.
        due(n.counted(LOST), 1);
        due(n.end(0, 0, UNACKNOWLEDGED), 0);
        due(n.end(0, 0, WAITING), 0);
        due(n.flow(0, 1, 2, KEPT), 0);
        n.tick(50);
        due(n.counted(LOST), 1);
        due(n.circuit(1, 0, 0, 3), 0);
        due(n.circuit(1, 0, 1, 3), 1);
        due(n.circuit(1, 0, 2, 3), 1);
    }

    private static void endsByKinds() {
        sentence(PART_3, "is given to its flow, if that is open, else, of kinds 7 and above, routed, and of others "
            + "LOST");
        Net n = triangle();
        // CLOSED (2) and OPENED (2), kinds 5 and 6, wait for 1; behind them an INITIAL, kind 7.
        n.route(0, 2, 1, NONE);
        n.route(0, 2, 2, 1);
        due(n.end(0, 0, WAITING), 2);
        n.dial(0, 10);
        due(n.end(0, 0, WAITING), 3);
        n.activate(0, false);
        n.tick(2);
        due(n.counted(LOST), 0);
        due(n.end(0, 0, WAITING), 3);
        n.tick(1);
        due(n.flow(0, 1, 0, HELD), 0);
        due(n.flow(0, 1, 0, CURRENT), NONE);
        due(n.counted(LOST), 2);
        due(n.end(0, 0, WAITING), 0);
        n.tick(6);
        due(n.subscriber(10, 0), 3);
        due(n.counted(LOST), 2);
    }

    /** second() in tick 71: at both exchanges six messages were given to flow 0 ahead of the BACKs. */
    private static Net backsWait() {
        Net n = second();
        n.tick(10);
        give(n, 0, 1, 0, 6);
        give(n, 1, 0, 0, 6);
        n.tick(1);
        for (int side = 0; side < 2; side++) {
            due(n.end(0, side, UNACKNOWLEDGED), 1);
            due(n.end(0, side, WAITING), 5 + 2);
        }
        return n;
    }

    private static void endsWithoutBacks() {
        sentence(PART_3, "but a BACK or BACKED just goes, it isn't LOST. Nothing is left there.");
        Net n = backsWait();
        n.activate(0, false);
        due(n.end(1, 0, WAITING), 1);
        n.activate(1, false);
        // The OVERs of link 1 have no way.
        due(n.counted(LOST), 2);
        n.tick(10);
        // Of each exchange: one that wasn't acknowledged, five that waited and have no other way, the
        // OVER of link 0 that waited at link 1; but not the two BACKs.
        due(n.counted(LOST), 2 + 2 * (1 + 5 + 1));
        for (int link = 0; link < 2; link++) {
            due(n.end(link, 0, UNACKNOWLEDGED), 0);
            due(n.end(link, 0, WAITING), 0);
        }
        // In tick 74 two BACKED for exchange 1 wait too, and all that exchange 1 sent is acknowledged.
        Net m = second();
        m.tick(10);
        give(m, 0, 1, 0, 6);
        m.tick(4);
        due(m.end(0, 0, WAITING), 6 + 2 + 2 - 4);
        due(m.end(0, 0, UNACKNOWLEDGED), 2);
        due(m.end(0, 1, UNACKNOWLEDGED) + m.end(0, 1, WAITING), 0);
        m.activate(0, false);
        m.activate(1, false);
        m.tick(10);
        // Two OVERs of link 1 and two of link 0; of the six the two that were not acknowledged and
        // the two that waited.
        due(m.counted(LOST), 2 + 2 + 2 + 2);
        due(m.end(0, 0, WAITING), 0);
    }

    private static void endsWithoutBacksThoughOpen() {
        sentence(PART_3, "but a BACK or BACKED just goes");
        // Read so: it goes in any case, also when its flow is open, as here by link 1.
        Net n = backsWait();
        n.activate(0, false);
        n.tick(2);
        due(n.flow(0, 1, 1, HELD), 0);
        due(n.flow(0, 1, 1, CURRENT), 1);
        n.tick(30);
        // OVER, OVERED and the six, of which the first was not taken: numbers 0 to 7, and no BACK.
        due(n.end(1, 0, SENT), 7);
        due(n.end(1, 1, SENT), 7);
        due(n.counted(LOST), 0);
    }

    private static void endsInOrder() {
        sentence(PART_3, "Then what is not acknowledged, in order, then what waits at this end, in order, then what "
            + "was kept of these flows, by flows, in order");
        // Flows 1 and 3 have link 1: a BLOCK is sent, one waits; what is kept of flow 3 is older.
        Net n = pair(2);
        n.block(0, 1, 1, true);
        n.tick(1);
        n.block(0, 1, 3, true);
        n.activate(1, false);
        n.block(0, 1, 3, false);
        n.block(0, 1, 1, false);
        due(n.end(1, 0, UNACKNOWLEDGED), 1);
        due(n.end(1, 0, WAITING), 1);
        n.tick(2);
        due(n.octet(0, 0, 3), 2);
        int[] kinds = {13, 13, 14, 14};
        int[] circuits = {1, 3, 1, 3};
        for (int i = 0; i < 4; i++) {
            n.tick(1);
            due(n.octet(0, 0, 3), kinds[i]);
            due(n.octet(0, 0, 8), circuits[i]);
        }
        n.tick(1);
        due(n.octet(0, 0, 2), 0);
    }

    private static void endsInOrderUpToSixtyFour() {
        sentence(PART_3, "then what waits at this end, in order, then what was kept of these flows, by flows, in "
            + "order");
        Net n = pair(2);
        give(n, 0, 1, 0, 64);
        n.activate(0, false);
        give(n, 0, 1, 0, 10);
        due(n.flow(0, 1, 0, KEPT), 10);
        due(n.counted(LOST), 0);
        n.tick(2);
        // The OVERED waits at link 1 first, then 63 of those that waited; the rest is LOST.
        due(n.flow(0, 1, 0, HELD), 0);
        due(n.flow(0, 1, 0, CURRENT), 1);
        due(n.counted(LOST), 1 + 10);
        due(n.end(0, 0, WAITING), 0);
        due(n.flow(0, 1, 0, KEPT), 0);
        due(n.end(1, 0, WAITING), 63);
        due(n.octet(1, 0, 3), 2);
    }

    // ---------------------------------------------------------------- changebacks

    private static void backedWhenFull() {
        sentence(PART_3, "BACK, got: a BACKED (with both numbers) goes the other way to the sender.");
        Net n = second();
        n.tick(11);
        due(n.end(0, 1, WAITING), 1);
        give(n, 1, 0, 0, 63);
        n.tick(1);
        // The BACK of flow 1 came to exchange 1, where its BACKED was the 65th.
        due(n.counted(LOST), 1);
        due(n.end(0, 1, WAITING), 63);
        n.tick(1);
        // With 63 there is room for the next.
        due(n.counted(LOST), 1);
        due(n.end(0, 1, WAITING), 63);
    }

    private static void backedOfAnotherNumber() {
        sentence(PART_3, "and the second number is how many it began, modulo 256");
        Net n = second();
        n.tick(10);
        // Numbered in the order in which they go, from tick 71 on: 30; the BACKs of flows 1 and 3 (31
        // and 32); 30; two BACKED for exchange 1; in tick 90 these two BACKs once more (65 and 66).
        give(n, 0, 1, 0, 30);
        n.tick(1);
        give(n, 0, 1, 0, 30);
        tickTo(n, 101);
        due(n.octet(0, 0, 3), 3);
        n.tick(1);
        due(n.flow(0, 1, 1, HELD), 2);
        n.tick(1);
        due(n.flow(0, 1, 1, HELD), 0);
        due(n.flow(0, 1, 1, CURRENT), 1);
        n.tick(1);
        // Link 1 fails and returns in tick 126: the second changeback.
        n.activate(1, false);
        n.activate(1, true);
        tickTo(n, 126);
        due(n.end(1, 0, STATE), IN_SERVICE);
        due(n.flow(0, 1, 1, HELD), 2);
        tickTo(n, 135);
        due(n.octet(0, 0, 3), 3);
        due(n.octet(0, 0, 8), 1);
        due(n.octet(0, 0, 9), 1);
        n.tick(1);
        due(n.octet(0, 1, 3), 4);
        due(n.octet(0, 1, 8), 1);
        due(n.octet(0, 1, 9), 1);
        n.tick(1);
        // A BACKED of the first: not this one.
        due(n.flow(0, 1, 1, HELD), 2);
        due(n.flow(0, 1, 1, CURRENT), 0);
        n.tick(60);
        due(n.flow(0, 1, 1, HELD), 0);
        due(n.flow(0, 1, 1, CURRENT), 1);
    }

    private static void backedNotHeld() {
        sentence(PART_3, "if its flow (the first number) is held for a changeback");
        // As above: the BACKs that went once more are answered in tick 137 (flow 1) and 138 (flow 3).
        Net n = second();
        n.tick(10);
        give(n, 0, 1, 0, 30);
        n.tick(1);
        give(n, 0, 1, 0, 30);
        tickTo(n, 136);
        due(n.octet(0, 1, 3), 4);
        due(n.flow(0, 1, 3, HELD), 0);
        due(n.flow(0, 1, 3, CURRENT), 1);
        // Of three links the BEST for flow 3 is 0; but nothing was UP, and it isn't held.
        n.link(0, 1);
        // Flow 1 is held, but for a changeover, when its BACKED comes; the OVER comes in 138.
        n.activate(1, false);
        n.tick(1);
        due(n.flow(0, 1, 1, HELD), 1);
        due(n.flow(0, 1, 1, CURRENT), NONE);
        n.tick(1);
        due(n.flow(0, 1, 1, HELD), 0);
        due(n.flow(0, 1, 1, CURRENT), 0);
        // The same without the failing of link 1.
        Net m = second();
        m.tick(10);
        give(m, 0, 1, 0, 30);
        m.tick(1);
        give(m, 0, 1, 0, 30);
        tickTo(m, 137);
        due(m.octet(0, 1, 3), 4);
        due(m.octet(0, 1, 8), 3);
        m.link(0, 1);
        m.tick(1);
        due(m.flow(0, 1, 3, HELD), 0);
        due(m.flow(0, 1, 3, CURRENT), 1);
    }

    private static void backedGivesUpToSixtyFour() {
        sentence(PART_3, "BEST is its current link, and what was kept is given to it, in order");
        Net n = second();
        n.tick(11);
        give(n, 0, 1, 1, 64);
        give(n, 0, 1, 3, 64);
        n.tick(3);
        // The BACKED of flow 1 is there in tick 74, behind the two BACKs of exchange 1.
        due(n.flow(0, 1, 1, HELD), 0);
        due(n.flow(0, 1, 1, KEPT), 0);
        due(n.end(1, 0, WAITING), 63);
        due(n.counted(LOST), 0);
        n.tick(1);
        // That of flow 3: one of its 64 has room.
        due(n.flow(0, 1, 3, KEPT), 0);
        due(n.counted(LOST), 63);
        due(n.end(1, 0, WAITING), 63);
    }

    private static void backAgain() {
        sentence(PART_3, "Timer OUT: that BACK (with the same numbers) waits at its current link once more .. timer "
            + "20.");
        Net n = second();
        n.tick(10);
        give(n, 0, 1, 0, 60);
        n.tick(1);
        // Set in tick 71 by what arrived: OUT in the lookings of 90 and 110. One goes in each tick; the
        // two BACKED for exchange 1 came in 72 and 73, two more in 91 and 92.
        due(n.end(0, 0, WAITING), 60 + 2 - 1);
        tickTo(n, 89);
        due(n.end(0, 0, WAITING), 61 + 2 - 18);
        n.tick(1);
        due(n.end(0, 0, WAITING), 45 + 2 - 1);
        due(n.flow(0, 1, 1, HELD), 2);
        tickTo(n, 109);
        due(n.end(0, 0, WAITING), 46 + 2 - 19);
        n.tick(1);
        due(n.end(0, 0, WAITING), 29 + 2 - 1);
        // The first BACK is the 61st: it goes in tick 131, behind the third time in 130.
        tickTo(n, 131);
        due(n.octet(0, 0, 3), 3);
        due(n.octet(0, 0, 8), 1);
        due(n.octet(0, 0, 9), 1);
        n.tick(2);
        due(n.flow(0, 1, 1, HELD), 0);
        // The first that went once more: behind flow 3's and the two BACKED.
        n.tick(2);
        due(n.octet(0, 0, 3), 3);
        due(n.octet(0, 0, 8), 1);
        due(n.octet(0, 0, 9), 1);
    }

    private static void backAgainWhenFull() {
        sentence(PART_3, "waits at its current link once more (as given, a 65th LOST), timer 20");
        Net n = second();
        n.tick(10);
        give(n, 0, 1, 0, 30);
        n.tick(1);
        give(n, 0, 1, 0, 32);
        tickTo(n, 89);
        due(n.end(0, 0, WAITING), 31 + 32 + 2 - 18);
        give(n, 0, 1, 0, 16);
        give(n, 0, 1, 2, 1);
        due(n.end(0, 0, WAITING), 64);
        n.tick(1);
        due(n.counted(LOST), 2);
        due(n.end(0, 0, WAITING), 63);
        due(n.flow(0, 1, 1, HELD), 2);
        // The timer is 20 all the same: but in 101 and 102 the first BACKs go, and are answered.
        tickTo(n, 110);
        due(n.flow(0, 1, 1, HELD), 0);
        due(n.end(0, 0, WAITING), 63 + 2 - 20);
    }

    // ---------------------------------------------------------------- NEXT, and what is told

    private static void nextNeedsFlowZero() {
        sentence(PART_3, "the first neighbour told for d, if it is not prohibited for d, and its flow 0 is open; "
            + "else the second likewise; else none");
        Net n = triangle();
        due(n.next(0, 1, 0), 1);
        n.activate(0, false);
        // Held, it is open.
        due(n.next(0, 1, 0), 1);
        n.tick(3);
        due(n.next(0, 1, 0), 2);
        n.activate(2, false);
        due(n.next(0, 1, 0), 2);
        n.tick(10);
        due(n.next(0, 1, 0), NONE);
    }

    private static void toldNothingAtFirst() {
        sentence(PART_3, "and a CLOSED (d) wasn't what it was TOLD latest of d (nothing at first)");
        Net n = row(3);
        due(n.link(0, 3), 2);
        for (int d = 1; d < 6; d++) {
            due(n.next(0, d, 23), NONE);
        }
        n.activate(2, true);
        n.tick(5);
        due(n.next(0, 1, 23), NONE);
        n.tick(1);
        // OPENED of 1 and 2, CLOSED of 4 and 5: both kinds are told if nothing was. Not of 3 itself.
        due(n.next(0, 1, 23), 0);
        due(n.next(0, 2, 23), 0);
        due(n.next(0, 3, 23), NONE);
        due(n.next(0, 4, 23), 1);
        due(n.next(0, 5, 23), 1);
        due(n.end(2, 0, SENT), 0);
        due(n.end(2, 0, WAITING), 3);
        due(n.octet(2, 0, 3), 6);
        due(n.octet(2, 0, 8), 1);
    }

    private static void toldOnce() {
        sentence(PART_3, "an OPENED (d) likewise in the other case");
        Net n = row(3);
        // Looked at again and again, it is told no second time.
        for (int i = 0; i < 3; i++) {
            due(n.route(1, 2, 2, NONE), true);
            due(n.route(1, 2, NONE, 2), true);
        }
        due(n.end(0, 1, WAITING), 0);
        due(n.route(1, 2, NONE, NONE), true);
        due(n.end(0, 1, WAITING), 1);
        due(n.route(1, 2, NONE, NONE), true);
        due(n.end(0, 1, WAITING), 1);
        due(n.route(1, 2, 2, NONE), true);
        due(n.end(0, 1, WAITING), 2);
        n.tick(1);
        due(n.octet(0, 1, 3), 5);
        due(n.octet(0, 1, 8), 2);
        n.tick(1);
        due(n.octet(0, 1, 3), 6);
        due(n.next(0, 2, 11), 1);
        n.tick(1);
        due(n.next(0, 2, 11), 0);
    }

    private static void toldThoughLost() {
        sentence(PART_3, "a CLOSED (d) is given to flow 0, if .. a CLOSED (d) wasn't what it was TOLD latest of d");
        // Read so: what was given was told, even if it is LOST as a 65th.
        Net n = row(3);
        give(n, 1, 0, 3, 64);
        n.route(1, 2, NONE, NONE);
        due(n.counted(LOST), 1);
        due(n.next(1, 2, 20), 1);
        n.route(1, 2, NONE, NONE);
        due(n.counted(LOST), 1);
        n.route(1, 2, 2, NONE);
        due(n.counted(LOST), 2);
        due(n.next(1, 2, 20), 0);
        n.tick(70);
        due(n.next(0, 2, 11), 0);
        due(n.counted(LOST), 2);
    }

    private static void toldBehindAChangeover() {
        sentence(PART_3, "It is LOOKED at behind route(), UP, an end's failing, the end of a changeover");
        Net n = row(3);
        n.activate(1, false);
        // Held, the flow to 2 is open, and nothing has changed for 0.
        due(n.next(1, 2, 20), 0);
        due(n.end(0, 1, WAITING), 0);
        n.tick(9);
        due(n.next(1, 2, 20), 0);
        n.tick(1);
        due(n.next(1, 2, 20), 1);
        due(n.octet(0, 1, 3), 5);
        due(n.octet(0, 1, 8), 2);
        n.activate(1, true);
        n.tick(6);
        due(n.next(1, 2, 20), 1);
        // It starts in the 12th tick behind its failing, and is UP in the 17th.
        n.tick(1);
        due(n.next(1, 2, 20), 0);
        due(n.octet(0, 1, 3), 6);
        due(n.octet(0, 1, 8), 2);
    }

    private static void toldOnAndOn() {
        sentence(PART_3, "CLOSED and OPENED (behind all else that these bring");
        Net n = row(4);
        due(n.next(0, 3, 0), 1);
        n.route(2, 3, NONE, NONE);
        // CLOSED (3) from 2 to 1 goes in the first tick, that from 1 to 0 in the second.
        due(n.next(1, 3, 12), 0);
        n.tick(2);
        due(n.next(1, 3, 12), 1);
        due(n.next(1, 3, 0), NONE);
        due(n.next(1, 3, 20), 1);
        due(n.octet(0, 1, 3), 5);
        n.tick(1);
        due(n.next(0, 3, 11), 1);
        due(n.next(0, 3, 0), NONE);
        n.route(2, 3, 3, NONE);
        n.tick(3);
        due(n.next(0, 3, 11), 0);
        due(n.next(0, 3, 0), 1);
    }

    private static void toldClosedIfItIsNext() {
        sentence(PART_3, "a CLOSED (d) is given to flow 0, if NEXT of d is none, or it");
        Net n = row(3);
        // For 2 exchange 0 asks 1, which is told CLOSED; of 3 there is no NEXT: CLOSED too.
        due(n.next(0, 2, 21), 1);
        due(n.next(0, 3, 21), 1);
        due(n.next(1, 2, 20), 0);
        due(n.next(1, 0, 12 + 10), 0);
        due(n.next(1, 2, 10), 1);
        due(n.next(0, 2, 11), 0);
        // A neighbour whose flow 0 isn't open is told nothing.
        n.activate(1, false);
        n.tick(12);
        n.route(1, 3, 0, NONE);
        due(n.next(1, 3, 22), 1);
        due(n.end(1, 0, WAITING), 0);
    }
}
