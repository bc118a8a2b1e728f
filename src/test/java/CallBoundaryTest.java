/** The boundary cases that PART 4 of the Terms names: one test for each sentence. */
public final class CallBoundaryTest extends Boundaries {
    /** Where the sentences stand, and the promises by which they are seen. */
    private static final String PART_4 = "Promises 7 to 11, 17 and 18, PART 4";

    /** What circuit() is asked for; 0 is STATE, 1 TIMER. */
    private static final int BLOCKED_HERE = 2;
    private static final int BLOCKED_THERE = 3;
    private static final int LEG = 4;
    private static final int NUMBER = 5;
    private static final int COUNT = 6;
    private static final int LENGTH = 7;

    /** The states of a subscriber; of a circuit's end 1 to 8 are written as the document does. */
    private static final int IDLE = 0;
    private static final int CALLING = 1;
    private static final int HEARING = 2;
    private static final int RINGING = 3;
    private static final int TALKING = 4;
    private static final int ENDED = 5;

    public static void main(String[] args) {
        countModulo64();
        countAheadOfInitial();
        firstNumberOfReleased();
        connectHereNotIdle();
        connectThereNotIdle();
        connectNoNeighbour();
        connectFirstThenSecond();
        connectNotBack();
        connectWithoutMessages();
        connectLowest();
        connectNone();
        connectNoneOnTheWay();
        lengthOfSix();
        lengthOfSeven();
        lengthZero();
        goesBackToOthers();
        letGoOfSubscribers();
        letGoOfACircuit();
        initialWhenBlocked();
        initialWhenItControls();
        initialWhenItDoesNot();
        initialYieldsWithoutAnother();
        initialYieldsFirst();
        initialWhenReleasing();
        completeWhenIdle();
        answerWhenIdle();
        completeOfAnotherCount();
        answerOfAnotherCount();
        completeTwice();
        releaseOfAnotherCount();
        releaseIn7();
        releasedOfAnotherCount();
        releasedInACall();
        resetOfAnotherCount();
        resetOfItsOwnCount();
        resetIn7();
        blockedThere();
        timerOf1();
        timerOf2();
        timerOf3();
        firstTimerOf7();
        secondTimerOf7();
        timerOf8();
        talksFar();
        talksNotYet();
        finish("boundaries of calls");
    }

    // ---------------------------------------------------------------- COUNT

    private static void countModulo64() {
        sentence(PART_4, "Its COUNT (0 at first, modulo 64) tells its calls apart");
        Net n = pair(1);
        due(n.circuit(0, 1, 0, COUNT), 0);
        for (int i = 1; i <= 66; i++) {
            n.dial(0, 10);
            n.tick(3);
            if (i <= 2 || i >= 62) {
                due(n.circuit(0, 1, 0, COUNT), i % 64);
                due(n.circuit(1, 0, 0, COUNT), i % 64);
                due(n.subscriber(0, 0), HEARING);
            }
            n.hang(0);
            n.tick(3);
        }
        due(n.circuit(0, 1, 0, STATE), 0);
        due(n.circuit(0, 1, 0, COUNT), 2);
        due(n.circuit(0, 1, 1, COUNT), 0);
        due(n.counted(LOST), 0);
    }

    private static void countAheadOfInitial() {
        sentence(PART_4, "an end that sends an INITIAL has 1 more ahead of that");
        Net n = pair(1);
        n.dial(0, 10);
        due(n.circuit(0, 1, 0, COUNT), 1);
        n.tick(1);
        due(n.octet(0, 0, 8), 0 + 4);
        // Its other end has that COUNT; when it is the one that sends, it has 1 more than that.
        n.tick(1);
        due(n.circuit(1, 0, 0, COUNT), 1);
        n.hang(0);
        n.tick(5);
        n.dial(11, 1);
        due(n.circuit(1, 0, 0, COUNT), 2);
        n.tick(1);
        due(n.octet(0, 1, 8), 0 + 4 * 2);
        // A BLOCK doesn't count.
        n.block(0, 1, 1, true);
        due(n.circuit(0, 1, 1, COUNT), 0);
    }

    private static void firstNumberOfReleased() {
        sentence(PART_4, "their first number is c and 4 times the COUNT of the end that sends them, but that which "
            + "came, of a RELEASED");
        Net n = lateRelease();
        // A RELEASE of COUNT 1 came to an end with COUNT 2.
        due(n.circuit(1, 0, 0, COUNT), 2);
        due(n.octet(0, 1, 3), 11);
        due(n.octet(0, 1, 8), 0 + 4 * 1);
    }

    // ---------------------------------------------------------------- CONNECT

    private static void connectHereNotIdle() {
        sentence(PART_4, "of this exchange: the subscriber, if idle, is RINGING .. if it isn't idle, the leg is LET "
            + "GO");
        Net n = new Net();
        due(n.dial(0, 1), true);
        due(n.subscriber(1, 0), RINGING);
        due(n.subscriber(0, 0), HEARING);
        // RINGING, HEARING, TALKING, ENDED: none of them is idle.
        due(n.dial(2, 1), true);
        due(n.subscriber(2, 0), ENDED);
        due(n.subscriber(2, 1), NONE);
        due(n.subscriber(1, 1), 0);
        due(n.dial(3, 0), true);
        due(n.subscriber(3, 0), ENDED);
        n.hang(3);
        n.answer(1);
        due(n.dial(3, 1), true);
        due(n.subscriber(3, 0), ENDED);
        n.hang(3);
        due(n.dial(3, 2), true);
        due(n.subscriber(3, 0), ENDED);
        due(n.subscriber(2, 0), ENDED);
        due(n.subscriber(0, 2), 1);
    }

    private static void connectThereNotIdle() {
        sentence(PART_4, "if it isn't idle, the leg is LET GO");
        Net n = pair(1);
        n.dial(11, 10);
        n.dial(0, 10);
        n.tick(2);
        due(n.circuit(1, 0, 0, STATE), 7);
        due(n.circuit(1, 0, 0, TIMER), 5);
        due(n.circuit(1, 0, 0, NUMBER), NONE);
        due(n.subscriber(10, 1), 11);
        n.tick(1);
        due(n.subscriber(0, 0), ENDED);
        due(n.circuit(0, 1, 0, STATE), 0);
        n.tick(1);
        due(n.circuit(1, 0, 0, STATE), 0);
    }

    private static void connectNoNeighbour() {
        sentence(PART_4, "of the first neighbour told for e, then of the second");
        Net n = pair(1);
        // None is told for 2; for 3 two that are no neighbours.
        due(n.dial(0, 20), true);
        due(n.subscriber(0, 0), ENDED);
        n.route(0, 3, 4, 5);
        due(n.dial(1, 30), true);
        due(n.subscriber(1, 0), ENDED);
        // The second alone.
        n.route(0, 3, NONE, 1);
        due(n.dial(2, 30), true);
        due(n.subscriber(2, 1), 110);
        due(n.counted(LOST), 0);
    }

    private static void connectFirstThenSecond() {
        sentence(PART_4, "of the first neighbour told for e, then of the second .. the lowest circuit that is idle");
        Net n = triangle();
        for (int c = 0; c < 4; c++) {
            n.dial(c, 10 + c);
            due(n.subscriber(c, 1), 110 + c);
        }
        n.hang(0);
        // All four to 1 are taken (the first releases): by 2.
        due(n.circuit(0, 1, 0, STATE), 7);
        n.dial(0, 10);
        due(n.subscriber(0, 1), 120);
        due(n.circuit(0, 2, 0, NUMBER), 10);
    }

    private static void connectNotBack() {
        sentence(PART_4, "but not of the one to which the leg itself leads");
        Net n = triangle();
        // At 2 the first told for 1 is 0, from where the call comes; the second has no free circuit.
        n.route(2, 1, 0, 1);
        n.route(0, 1, 2, NONE);
        for (int c = 0; c < 4; c++) {
            n.block(2, 1, c, true);
        }
        n.tick(8);
        n.dial(0, 10);
        due(n.subscriber(0, 1), 120);
        n.tick(2);
        due(n.circuit(2, 0, 0, STATE), 7);
        due(n.circuit(2, 0, 1, STATE), 0);
        n.tick(2);
        due(n.subscriber(0, 0), ENDED);
        n.tick(4);
        // A call of 2's own may go by 0.
        n.route(0, 1, 1, NONE);
        n.dial(20, 10);
        due(n.subscriber(20, 1), 100);
    }

    private static void connectWithoutMessages() {
        sentence(PART_4, "(whatever can be reached by messages)");
        Net n = new Net();
        n.link(0, 1);
        n.route(0, 1, 1, NONE);
        due(n.next(0, 1, 0), NONE);
        due(n.dial(0, 10), true);
        due(n.subscriber(0, 0), CALLING);
        due(n.subscriber(0, 1), 110);
        due(n.circuit(0, 1, 0, STATE), 1);
        due(n.counted(LOST), 1);
        // Also if the neighbour is prohibited: 2 says CLOSED for 1 to 0.
        Net m = triangle();
        m.route(0, 1, 2, NONE);
        m.route(2, 1, NONE, NONE);
        m.tick(4);
        due(m.next(0, 1, 12), 1);
        due(m.dial(0, 10), true);
        due(m.subscriber(0, 1), 120);
    }

    private static void connectLowest() {
        sentence(PART_4, "the lowest circuit that is idle, and blocked neither here nor there");
        Net n = pair(1);
        n.block(0, 1, 0, true);
        n.block(1, 0, 1, true);
        n.tick(3);
        due(n.circuit(0, 1, 1, BLOCKED_THERE), 1);
        due(n.circuit(0, 1, 1, BLOCKED_HERE), 0);
        n.dial(0, 10);
        due(n.subscriber(0, 1), 112);
        n.dial(11, 1);
        due(n.subscriber(11, 1), 102);
        n.dial(2, 12);
        due(n.subscriber(2, 1), 113);
        // Blocked no more, and lower.
        n.block(0, 1, 0, false);
        n.dial(3, 13);
        due(n.subscriber(3, 1), 110);
    }

    private static void connectNone() {
        sentence(PART_4, "None: the leg is let go.");
        Net n = pair(1);
        for (int c = 0; c < 4; c++) {
            n.block(0, 1, c, true);
        }
        due(n.dial(0, 10), true);
        due(n.subscriber(0, 0), ENDED);
        due(n.subscriber(0, 1), NONE);
        n.block(0, 1, 3, false);
        due(n.dial(1, 10), true);
        due(n.subscriber(1, 1), 113);
        due(n.dial(2, 10), true);
        due(n.subscriber(2, 0), ENDED);
    }

    private static void connectNoneOnTheWay() {
        sentence(PART_4, "None: the leg is let go. LENGTH");
        Net n = row(3);
        for (int c = 0; c < 4; c++) {
            n.block(1, 2, c, true);
        }
        n.dial(0, 20);
        n.tick(2);
        due(n.circuit(1, 0, 0, STATE), 7);
        due(n.circuit(1, 0, 0, LENGTH), 0);
        n.tick(1);
        due(n.subscriber(0, 0), ENDED);
        due(n.circuit(0, 1, 0, STATE), 0);
    }

    // ---------------------------------------------------------------- LENGTH

    /** 0, 1 and 2 in a ring; for 4 each asks the next, 2 only because all its circuits to 4 are blocked. */
    private static Net circle() {
        Net n = new Net();
        n.link(0, 1);
        n.link(1, 2);
        n.link(2, 0);
        n.link(2, 4);
        for (int i = 0; i < 3; i++) {
            n.route(i, (i + 1) % 3, (i + 1) % 3, NONE);
            n.route(i, (i + 2) % 3, (i + 2) % 3, NONE);
        }
        n.route(0, 4, 1, NONE);
        n.route(1, 4, 2, NONE);
        n.route(2, 4, 4, 0);
        n.route(4, 2, 2, NONE);
        for (int l = 0; l < 4; l++) {
            n.activate(l, true);
            n.block(2, 4, l, true);
        }
        n.tick(60);
        return n;
    }

    private static void lengthOfSix() {
        sentence(PART_4, "1 if the leg is a subscriber, else 1 more than that of the leg, which an INITIAL told it");
        Net n = circle();
        n.dial(0, 43);
        // At 2 the call is in tick 3, and once more in tick 6, when a circuit to 4 is free.
        n.tick(4);
        n.block(2, 4, 3, false);
        n.tick(3);
        due(n.circuit(0, 1, 0, LENGTH), 1);
        due(n.circuit(1, 0, 0, LENGTH), 1);
        due(n.circuit(1, 2, 0, LENGTH), 2);
        due(n.circuit(2, 0, 0, LENGTH), 3);
        due(n.circuit(0, 1, 1, LENGTH), 4);
        due(n.circuit(1, 2, 1, LENGTH), 5);
        due(n.circuit(2, 4, 3, LENGTH), 6);
        due(n.circuit(4, 2, 3, LENGTH), 6);
        due(n.subscriber(43, 0), RINGING);
        n.tick(6);
        due(n.subscriber(0, 0), HEARING);
        n.answer(43);
        n.tick(6);
        due(n.subscriber(0, 2), NONE);
        n.tick(1);
        due(n.subscriber(0, 2), 43);
        due(n.subscriber(43, 2), 0);
    }

    private static void lengthOfSeven() {
        sentence(PART_4, "where it would be 7 no circuit is looked for, and the leg is let go");
        Net n = circle();
        n.dial(0, 43);
        n.tick(7);
        due(n.circuit(1, 2, 1, LENGTH), 5);
        due(n.circuit(2, 0, 1, LENGTH), 6);
        due(n.circuit(2, 0, 1, STATE), 1);
        due(n.circuit(0, 2, 1, STATE), 7);
        due(n.circuit(0, 1, 2, STATE), 0);
        due(n.circuit(0, 1, 2, COUNT), 0);
        n.tick(10);
        due(n.subscriber(0, 0), ENDED);
    }

    private static void lengthZero() {
        sentence(PART_4, "LENGTH (how many circuits the call has up to it; 0 in 0, 7, 8)");
        Net n = new Net();
        n.link(0, 1);
        n.route(0, 1, 1, NONE);
        due(n.circuit(0, 1, 0, LENGTH), 0);
        n.dial(0, 10);
        due(n.circuit(0, 1, 0, LENGTH), 1);
        n.tick(20);
        due(n.circuit(0, 1, 0, STATE), 7);
        due(n.circuit(0, 1, 0, LENGTH), 0);
        n.tick(30);
        due(n.circuit(0, 1, 0, STATE), 8);
        due(n.circuit(0, 1, 0, LENGTH), 0);
        Net m = pair(1);
        m.dial(0, 10);
        m.tick(2);
        due(m.circuit(1, 0, 0, LENGTH), 1);
        m.hang(0);
        m.tick(5);
        due(m.circuit(0, 1, 0, STATE) + m.circuit(1, 0, 0, STATE), 0);
        due(m.circuit(0, 1, 0, LENGTH), 0);
        due(m.circuit(1, 0, 0, LENGTH), 0);
    }

    // ---------------------------------------------------------------- BACK, LET GO

    private static void goesBackToOthers() {
        sentence(PART_4, "COMPLETE: a CALLING subscriber is HEARING; a circuit in 4 sends COMPLETE, and is in 5");
        Net n = row(3);
        n.dial(0, 20);
        n.tick(3);
        due(n.circuit(1, 0, 0, STATE), 4);
        due(n.circuit(2, 1, 0, STATE), 5);
        due(n.subscriber(0, 0), CALLING);
        // Answered at once: ANSWER is behind COMPLETE on each circuit.
        n.answer(20);
        due(n.circuit(2, 1, 0, STATE), 6);
        n.tick(1);
        due(n.circuit(1, 0, 0, STATE), 5);
        due(n.circuit(1, 2, 0, STATE), 2);
        n.tick(1);
        due(n.circuit(1, 0, 0, STATE), 6);
        due(n.circuit(1, 2, 0, STATE), 3);
        due(n.subscriber(0, 0), HEARING);
        n.tick(1);
        due(n.subscriber(0, 0), TALKING);
    }

    private static void letGoOfSubscribers() {
        sentence(PART_4, "a subscriber RINGING is IDLE, CALLING, HEARING or TALKING: ENDED");
        Net n = new Net();
        n.dial(0, 1);
        n.hang(0);
        due(n.subscriber(1, 0), IDLE);
        due(n.subscriber(1, 1), NONE);
        n.dial(0, 1);
        n.answer(1);
        n.hang(1);
        due(n.subscriber(0, 0), ENDED);
        due(n.subscriber(0, 1), NONE);
        due(n.subscriber(1, 0), IDLE);
        // HEARING: nobody answers within 60.
        Net m = pair(1);
        m.dial(0, 10);
        m.tick(3);
        due(m.subscriber(0, 0), HEARING);
        m.tick(59);
        due(m.subscriber(0, 0), ENDED);
        due(m.subscriber(10, 0), RINGING);
        m.tick(1);
        due(m.subscriber(10, 0), IDLE);
        // An ENDED one stays so.
        m.tick(100);
        due(m.subscriber(0, 0), ENDED);
    }

    private static void letGoOfACircuit() {
        sentence(PART_4, "a circuit in 1 to 6 sends a RELEASE, and is in 7, with two timers: 6 and 30");
        // In 1, 2 and 3 by hanging the caller, in 5 and 6 there is no other way than these.
        int[] ticks = {0, 3, 5};
        for (int state = 1; state <= 3; state++) {
            Net n = pair(1);
            n.dial(0, 10);
            n.tick(Math.min(3, ticks[state - 1]));
            if (state == 3) {
                n.answer(10);
                n.tick(2);
            }
            due(n.circuit(0, 1, 0, STATE), state);
            n.hang(0);
            due(n.circuit(0, 1, 0, STATE), 7);
            due(n.circuit(0, 1, 0, TIMER), 6);
            due(n.circuit(0, 1, 0, LEG), NONE);
        }
        Net m = pair(1);
        m.dial(0, 10);
        m.tick(3);
        m.answer(10);
        due(m.circuit(1, 0, 0, STATE), 6);
        m.hang(10);
        due(m.circuit(1, 0, 0, STATE), 7);
        due(m.circuit(1, 0, 0, TIMER), 6);
        // In 5: the circuit from 0 to 1 ends at 1, where that to 2 releases.
        Net k = row(3);
        k.dial(0, 20);
        k.tick(4);
        due(k.circuit(1, 0, 0, STATE), 5);
        due(k.circuit(1, 2, 0, TIMER), 59);
        k.tick(59);
        due(k.circuit(1, 0, 0, STATE), 7);
        due(k.circuit(1, 0, 0, TIMER), 6);
    }

    // ---------------------------------------------------------------- INITIAL

    private static void initialWhenBlocked() {
        sentence(PART_4, "INITIAL: idle (blocked or not): it is in 4, with that COUNT and LENGTH, and CONNECTED to "
            + "the number");
        Net n = pair(1);
        // Blocked here a moment ago: the other end doesn't know yet.
        n.block(1, 0, 0, true);
        n.dial(0, 10);
        due(n.subscriber(0, 1), 110);
        n.tick(2);
        due(n.circuit(1, 0, 0, BLOCKED_HERE), 1);
        due(n.circuit(1, 0, 0, STATE), 5);
        due(n.circuit(1, 0, 0, COUNT), 1);
        due(n.subscriber(10, 0), RINGING);
        // Blocked there: it blocked itself behind its INITIAL, and a new one comes when it is idle.
        Net m = pair(1);
        m.dial(0, 10);
        m.block(0, 1, 0, true);
        m.tick(4);
        due(m.circuit(1, 0, 0, BLOCKED_THERE), 1);
        due(m.circuit(1, 0, 0, STATE), 5);
    }

    /** Both ends of circuit c have sent an INITIAL, and got the other's in the second tick. */
    private static Net bothAsk(int c) {
        Net n = pair(1);
        for (int lower = 0; lower < c; lower++) {
            n.block(0, 1, lower, true);
        }
        n.tick(5);
        n.dial(0, 10);
        n.dial(11, 1);
        due(n.subscriber(0, 1), 110 + c);
        due(n.subscriber(11, 1), 100 + c);
        n.tick(2);
        return n;
    }

    private static void initialWhenItControls() {
        sentence(PART_4, "(circuits 0 and 2 are controlled by the exchange with the higher number, 1 and 3 by the "
            + "other one)");
        for (int c = 0; c < 4; c++) {
            Net n = bothAsk(c);
            int controls = c % 2 == 0 ? 1 : 0;
            due(n.circuit(controls, 1 - controls, c, STATE), 1);
            due(n.circuit(controls, 1 - controls, c, NUMBER), controls == 1 ? 1 : 10);
            due(n.circuit(controls, 1 - controls, c, TIMER), 18);
            due(n.circuit(1 - controls, controls, c, STATE), 5);
            due(n.circuit(1 - controls, controls, c, NUMBER), controls == 1 ? 1 : 10);
            due(n.circuit(1 - controls, controls, c, TIMER), 0);
        }
    }

    private static void initialWhenItDoesNot() {
        sentence(PART_4, "then that leg is connected to the number that it wanted, anew");
        Net n = bothAsk(0);
        due(n.circuit(0, 1, 0, LEG), 1);
        due(n.subscriber(1, 0), RINGING);
        due(n.subscriber(0, 0), CALLING);
        due(n.subscriber(0, 1), 111);
        due(n.circuit(0, 1, 1, NUMBER), 10);
        due(n.circuit(0, 1, 1, TIMER), 19);
        due(n.circuit(0, 1, 1, COUNT), 1);
        n.tick(5);
        due(n.subscriber(0, 0), HEARING);
        due(n.subscriber(11, 0), HEARING);
        due(n.subscriber(10, 1), 101);
        // The COUNTs were 1 at both, and stay so.
        due(n.circuit(0, 1, 0, COUNT), 1);
        due(n.circuit(1, 0, 0, COUNT), 1);
    }

    private static void initialYieldsWithoutAnother() {
        sentence(PART_4, "its leg is joined no more; it is in 4, with that COUNT and LENGTH, and connected to the "
            + "number; then that leg is connected to the number that it wanted, anew");
        // Circuit 3 is the last: at 1, which doesn't control it, no other is left.
        Net n = bothAsk(3);
        due(n.subscriber(11, 0), ENDED);
        due(n.subscriber(11, 1), NONE);
        due(n.circuit(1, 0, 3, LEG), 10);
        // The number that comes is the one that asks: it isn't idle, so the INITIAL is let go first.
        Net m = pair(1);
        m.dial(0, 11);
        m.dial(11, 0);
        m.tick(2);
        due(m.circuit(0, 1, 0, STATE), 7);
        due(m.subscriber(0, 0), CALLING);
        due(m.subscriber(0, 1), 111);
    }

    private static void initialYieldsFirst() {
        sentence(PART_4, "and connected to the number; then that leg is connected to the number that it wanted, anew");
        // At 0, which doesn't control circuit 0 to 1, both need a circuit to 2: the call that comes is first.
        Net n = triangle();
        for (int c = 1; c < 4; c++) {
            n.block(0, 1, c, true);
        }
        n.route(1, 2, 0, NONE);
        n.tick(8);
        n.dial(0, 10);
        n.dial(11, 20);
        due(n.subscriber(0, 1), 110);
        due(n.subscriber(11, 1), 100);
        n.tick(2);
        due(n.circuit(0, 1, 0, STATE), 4);
        due(n.circuit(0, 1, 0, LEG), 120);
        due(n.circuit(0, 2, 0, NUMBER), 20);
        due(n.circuit(0, 2, 0, LENGTH), 2);
        due(n.subscriber(0, 1), 121);
        due(n.circuit(0, 2, 1, NUMBER), 10);
        due(n.circuit(0, 2, 1, LENGTH), 1);
    }

    private static void initialWhenReleasing() {
        sentence(PART_4, "What isn't told is nothing.");
        // Exchange 0 releases circuit 0 while exchange 1 asks on it: in 7 an INITIAL is nothing.
        Net n = pair(1);
        n.dial(0, 10);
        n.hang(0);
        n.dial(11, 1);
        due(n.subscriber(11, 1), 100);
        n.tick(2);
        due(n.circuit(0, 1, 0, STATE), 7);
        due(n.circuit(0, 1, 0, COUNT), 1);
        due(n.subscriber(1, 0), IDLE);
        // At 1, which controls it, the INITIAL of 0 is nothing too; the RELEASE bears its COUNT.
        due(n.circuit(1, 0, 0, STATE), 1);
        n.tick(1);
        due(n.circuit(1, 0, 0, STATE), 0);
        due(n.subscriber(11, 0), ENDED);
        n.tick(1);
        due(n.circuit(0, 1, 0, STATE), 0);
    }

    // ---------------------------------------------------------------- COMPLETE and ANSWER

    /**
     * The triangle: COMPLETE of a call that was given up comes by 2, in tick 69, behind RELEASED,
     * which comes from 1 itself in the same tick.
     */
    private static Net lateComplete() {
        Net n = triangle();
        n.route(1, 0, 2, NONE);
        n.tick(5);
        n.dial(0, 10);
        n.hang(0);
        n.tick(2);
        n.route(1, 0, 0, NONE);
        n.tick(1);
        due(n.circuit(0, 1, 0, STATE), 7);
        n.tick(1);
        return n;
    }

    private static void completeWhenIdle() {
        sentence(PART_4, "COMPLETE, ANSWER, when idle: it has that COUNT, sends a RESET, and is in 8, timer 30");
        Net n = lateComplete();
        due(n.circuit(0, 1, 0, STATE), 8);
        due(n.circuit(0, 1, 0, TIMER), 29);
        due(n.circuit(0, 1, 0, COUNT), 1);
        due(n.octet(0, 0, 3), 12);
        due(n.octet(0, 0, 8), 4);
        n.tick(2);
        due(n.circuit(0, 1, 0, STATE), 0);
        due(n.circuit(0, 1, 0, TIMER), 0);
    }

    private static void answerWhenIdle() {
        sentence(PART_4, "ANSWER, when idle: it has that COUNT, sends a RESET, and is in 8");
        Net n = lateAnswer();
        // Its COUNT was 1 when it was idle; a call from 1 makes it 2, and ends, ahead of the ANSWER.
        n.dial(11, 1);
        n.tick(2);
        due(n.circuit(0, 1, 0, COUNT), 2);
        n.hang(11);
        n.tick(3);
        due(n.circuit(0, 1, 0, STATE), 0);
        tickTo(n, 79);
        due(n.octet(2, 1, 3), 9);
        due(n.circuit(0, 1, 0, COUNT), 2);
        n.tick(1);
        due(n.circuit(0, 1, 0, STATE), 8);
        due(n.circuit(0, 1, 0, COUNT), 1);
        due(n.octet(0, 0, 3), 12);
        due(n.octet(0, 0, 8), 4);
        // The RESET of COUNT 1 comes to an end with COUNT 2: RELEASED all the same.
        n.tick(2);
        due(n.circuit(0, 1, 0, STATE), 0);
        due(n.circuit(1, 0, 0, COUNT), 2);
    }

    private static void completeOfAnotherCount() {
        sentence(PART_4, "With its own COUNT: COMPLETE in 1: it is in 2, timer 60, and that goes back to the other "
            + "leg");
        // COMPLETE of COUNT 1 waits at 2 behind twelve, and comes in tick 74; that of COUNT 2 in 75.
        Net n = triangle();
        give(n, 2, 0, 0, 12);
        n.route(1, 0, 2, NONE);
        n.dial(0, 10);
        n.tick(2);
        n.hang(0);
        n.route(1, 0, 0, 2);
        n.tick(3);
        due(n.circuit(0, 1, 0, STATE), 0);
        n.route(1, 0, 2, NONE);
        n.dial(0, 10);
        due(n.circuit(0, 1, 0, COUNT), 2);
        tickTo(n, 73);
        due(n.octet(2, 1, 3), 8);
        due(n.octet(2, 1, 8), 4);
        n.tick(1);
        due(n.octet(2, 1, 3), 8);
        due(n.octet(2, 1, 8), 8);
        due(n.circuit(0, 1, 0, STATE), 1);
        due(n.subscriber(0, 0), CALLING);
        n.tick(1);
        due(n.circuit(0, 1, 0, STATE), 2);
        due(n.circuit(0, 1, 0, TIMER), 59);
        due(n.subscriber(0, 0), HEARING);
    }

    /** ANSWER of a call that was given up waits at 2 behind fifteen: it comes to 0 in tick 80; now 69. */
    private static Net lateAnswer() {
        Net n = triangle();
        n.dial(0, 10);
        n.tick(3);
        give(n, 2, 0, 0, 15);
        n.route(1, 0, 2, NONE);
        n.answer(10);
        n.tick(3);
        n.hang(0);
        n.route(1, 0, 0, 2);
        n.tick(3);
        due(n.circuit(0, 1, 0, STATE), 0);
        due(n.subscriber(10, 0), ENDED);
        n.hang(10);
        return n;
    }

    private static void answerOfAnotherCount() {
        sentence(PART_4, "With its own COUNT: .. ANSWER in 2: it is in 3, without a timer, likewise");
        Net n = lateAnswer();
        n.dial(0, 10);
        n.tick(3);
        due(n.circuit(0, 1, 0, STATE), 2);
        due(n.circuit(0, 1, 0, COUNT), 2);
        tickTo(n, 79);
        due(n.octet(2, 1, 3), 9);
        due(n.octet(2, 1, 8), 4);
        n.tick(1);
        due(n.counted(KIND), 9);
        due(n.circuit(0, 1, 0, STATE), 2);
        due(n.subscriber(0, 0), HEARING);
        n.answer(10);
        n.tick(2);
        due(n.circuit(0, 1, 0, STATE), 3);
        due(n.circuit(0, 1, 0, TIMER), 0);
        due(n.subscriber(0, 0), TALKING);
    }

    private static void completeTwice() {
        sentence(PART_4, "COMPLETE in 1 .. ANSWER in 2");
        // ANSWER overtakes COMPLETE, which comes by 2, and is nothing in 1; COMPLETE comes behind it.
        Net n = triangle();
        give(n, 2, 0, 0, 6);
        n.route(1, 0, 2, NONE);
        n.dial(0, 10);
        n.tick(2);
        n.route(1, 0, 0, 2);
        n.answer(10);
        n.tick(1);
        due(n.octet(0, 1, 3), 9);
        n.tick(1);
        due(n.circuit(0, 1, 0, STATE), 1);
        n.tick(10);
        due(n.circuit(0, 1, 0, STATE), 2);
        due(n.subscriber(0, 0), HEARING);
        due(n.circuit(1, 0, 0, STATE), 6);
        due(n.subscriber(10, 2), NONE);
    }

    // ---------------------------------------------------------------- RELEASE, RELEASED, RESET

    /**
     * A RELEASE of COUNT 1 waits at 2, and comes to 1 in tick 80, which is now, when the circuit is
     * in another call, with COUNT 2.
     */
    private static Net lateRelease() {
        Net n = triangle();
        n.dial(0, 10);
        n.tick(3);
        give(n, 2, 1, 0, 15);
        n.route(0, 1, 2, NONE);
        n.hang(0);
        n.tick(3);
        // The RELEASE goes again in the looking of tick 69, by 1 itself.
        n.route(0, 1, 1, 2);
        n.tick(5);
        due(n.circuit(0, 1, 0, STATE), 0);
        due(n.subscriber(10, 0), IDLE);
        n.dial(0, 10);
        n.tick(3);
        due(n.circuit(0, 1, 0, STATE), 2);
        due(n.circuit(1, 0, 0, STATE), 5);
        tickTo(n, 79);
        due(n.octet(1, 1, 3), 10);
        due(n.octet(1, 1, 8), 4);
        n.tick(1);
        return n;
    }

    private static void releaseOfAnotherCount() {
        sentence(PART_4, "RELEASE: it sends RELEASED; in 1 to 6, with its own COUNT, it is idle then");
        Net n = lateRelease();
        due(n.counted(KIND), 10);
        due(n.circuit(1, 0, 0, STATE), 5);
        due(n.subscriber(10, 0), RINGING);
        due(n.octet(0, 1, 3), 11);
        n.tick(5);
        due(n.subscriber(0, 0), HEARING);
        due(n.circuit(0, 1, 0, STATE), 2);
        // A RELEASE to an end that is idle is answered too: lost RELEASED, then the RELEASE again.
        Net m = pair(1);
        m.dial(0, 10);
        m.tick(3);
        m.hang(0);
        m.route(1, 0, NONE, NONE);
        m.tick(3);
        due(m.circuit(1, 0, 0, STATE), 0);
        due(m.circuit(0, 1, 0, STATE), 7);
        due(m.counted(LOST), 1);
        m.route(1, 0, 0, NONE);
        m.tick(5);
        due(m.circuit(0, 1, 0, STATE), 0);
    }

    private static void releaseIn7() {
        sentence(PART_4, "RELEASE: it sends RELEASED; in 1 to 6, with its own COUNT, it is idle then, and the other "
            + "leg is let go");
        Net n = pair(1);
        n.dial(0, 10);
        n.tick(3);
        n.answer(10);
        n.tick(2);
        n.hang(0);
        n.hang(10);
        n.tick(2);
        // Both release: the RELEASE of the other is answered, but only RELEASED makes it idle.
        due(n.counted(KIND), 10);
        due(n.circuit(0, 1, 0, STATE), 7);
        due(n.circuit(1, 0, 0, STATE), 7);
        due(n.octet(0, 0, 3), 11);
        n.tick(1);
        due(n.circuit(0, 1, 0, STATE), 0);
        due(n.circuit(1, 0, 0, STATE), 0);
    }

    private static void releasedInACall() {
        sentence(PART_4, "RELEASED with its own COUNT: in 7 and 8 it is idle. .. What isn't told is nothing.");
        // The INITIAL of COUNT 1 and the first RELEASE are the 65th and LOST, so 1 knows nothing of the
        // call; the RELEASEs that go again wait behind 64, and go in ticks 125, 126, ..
        Net n = pair(1);
        give(n, 0, 1, 0, 64);
        n.dial(0, 10);
        n.hang(0);
        due(n.counted(LOST), 2);
        tickTo(n, 126);
        due(n.octet(0, 0, 3), 10);
        due(n.octet(0, 1, 3), 11);
        due(n.circuit(1, 0, 0, COUNT), 0);
        // Between the first RELEASED and the second an INITIAL goes, which has COUNT 1 too.
        n.dial(11, 1);
        due(n.circuit(1, 0, 0, COUNT), 1);
        n.tick(1);
        due(n.circuit(0, 1, 0, STATE), 0);
        n.tick(1);
        due(n.circuit(0, 1, 0, STATE), 5);
        due(n.circuit(0, 1, 0, COUNT), 1);
        due(n.octet(0, 1, 3), 11);
        due(n.octet(0, 1, 8), 4);
        n.tick(1);
        due(n.circuit(0, 1, 0, STATE), 5);
        due(n.subscriber(1, 0), RINGING);
    }

    private static void releasedOfAnotherCount() {
        sentence(PART_4, "RELEASED with its own COUNT: in 7 and 8 it is idle");
        Net n = lateRelease();
        n.hang(0);
        due(n.circuit(0, 1, 0, STATE), 7);
        n.tick(1);
        // RELEASED of COUNT 1 came.
        due(n.counted(KIND), 11);
        due(n.circuit(0, 1, 0, STATE), 7);
        due(n.circuit(0, 1, 0, TIMER), 5);
        n.tick(2);
        due(n.counted(KIND), 11);
        due(n.circuit(0, 1, 0, STATE), 0);
    }

    private static void resetOfAnotherCount() {
        sentence(PART_4, "RESET: it sends RELEASED; with its own COUNT it is idle then");
        // The RESET of COUNT 1 comes to 1 in tick 70; there the circuit has been asked for anew.
        Net n = lateComplete();
        n.dial(12, 2);
        due(n.subscriber(12, 1), 100);
        due(n.circuit(1, 0, 0, COUNT), 2);
        n.tick(1);
        due(n.counted(KIND), 12);
        due(n.circuit(1, 0, 0, STATE), 1);
        due(n.circuit(1, 0, 0, LEG), 12);
        due(n.subscriber(12, 0), CALLING);
        n.tick(1);
        // In 8 the INITIAL is nothing; then RELEASED comes, with the COUNT of the RESET.
        due(n.circuit(0, 1, 0, STATE), 8);
        due(n.octet(0, 1, 3), 11);
        due(n.octet(0, 1, 8), 4);
        n.tick(1);
        due(n.circuit(0, 1, 0, STATE), 0);
        due(n.subscriber(2, 0), IDLE);
    }

    private static void resetOfItsOwnCount() {
        sentence(PART_4, "with its own COUNT it is idle then, and, if it was in 1 to 6, the other leg is let go");
        // Exchange 0 gives the call up, but has no way for its RELEASEs, till it resets in 30 ticks.
        Net n = pair(1);
        n.dial(0, 10);
        n.tick(3);
        n.answer(10);
        n.tick(2);
        n.route(0, 1, NONE, NONE);
        n.hang(0);
        n.tick(29);
        due(n.circuit(1, 0, 0, STATE), 6);
        due(n.subscriber(10, 0), TALKING);
        n.tick(1);
        due(n.circuit(0, 1, 0, STATE), 8);
        n.route(0, 1, 1, NONE);
        n.tick(29);
        due(n.subscriber(10, 0), TALKING);
        n.tick(2);
        due(n.counted(KIND), 12);
        due(n.circuit(1, 0, 0, STATE), 0);
        due(n.subscriber(10, 0), ENDED);
        n.tick(1);
        due(n.circuit(0, 1, 0, STATE), 0);
        // Both in 8: each is idle by the other's RESET.
        Net m = pair(1);
        m.dial(0, 10);
        m.tick(3);
        m.route(0, 1, NONE, NONE);
        m.route(1, 0, NONE, NONE);
        m.hang(0);
        m.answer(10);
        m.hang(10);
        m.tick(30);
        due(m.circuit(0, 1, 0, STATE), 8);
        due(m.circuit(1, 0, 0, STATE), 8);
        m.route(0, 1, 1, NONE);
        m.tick(31);
        due(m.circuit(1, 0, 0, STATE), 0);
        due(m.circuit(0, 1, 0, STATE), 8);
    }

    private static void resetIn7() {
        sentence(PART_4, "RESET: it sends RELEASED; with its own COUNT it is idle then, and, if it was in 1 to 6");
        // Exchange 0 has no way for its RELEASEs, resets in tick 93, and again in 123, when 1 is in 7.
        Net n = pair(1);
        n.dial(0, 10);
        n.tick(3);
        n.route(0, 1, NONE, NONE);
        n.hang(0);
        n.answer(10);
        tickTo(n, 120);
        n.route(1, 0, NONE, NONE);
        n.hang(10);
        n.route(0, 1, 1, NONE);
        due(n.circuit(1, 0, 0, STATE), 7);
        n.tick(3);
        due(n.circuit(1, 0, 0, STATE), 7);
        due(n.octet(0, 0, 3), 12);
        n.tick(1);
        due(n.circuit(1, 0, 0, STATE), 0);
        due(n.circuit(1, 0, 0, TIMER), 0);
        due(n.circuit(0, 1, 0, STATE), 8);
    }

    private static void blockedThere() {
        sentence(PART_4, "BLOCK, UNBLOCK: it is blocked there, or no more.");
        Net n = pair(1);
        n.block(0, 1, 3, true);
        n.tick(2);
        due(n.circuit(1, 0, 3, BLOCKED_THERE), 1);
        due(n.circuit(1, 0, 3, BLOCKED_HERE), 0);
        due(n.circuit(1, 0, 2, BLOCKED_THERE), 0);
        n.block(1, 0, 3, true);
        n.tick(2);
        due(n.circuit(0, 1, 3, BLOCKED_THERE), 1);
        n.block(0, 1, 3, false);
        n.tick(2);
        due(n.circuit(1, 0, 3, BLOCKED_THERE), 0);
        due(n.circuit(1, 0, 3, BLOCKED_HERE), 1);
        due(n.circuit(0, 1, 3, BLOCKED_HERE), 0);
        due(n.circuit(0, 1, 3, BLOCKED_THERE), 1);
    }

    // ---------------------------------------------------------------- timers

    private static void timerOf1() {
        sentence(PART_4, "Timers OUT: of 1 and 2: the circuit is let go, then the other leg.");
        // COMPLETE behind 18 messages comes in tick 80, ahead of the timers; behind 19 it is too late.
        Net n = pair(1);
        give(n, 1, 0, 0, 18);
        n.dial(0, 10);
        n.tick(19);
        due(n.circuit(0, 1, 0, STATE), 1);
        due(n.circuit(0, 1, 0, TIMER), 1);
        n.tick(1);
        due(n.circuit(0, 1, 0, STATE), 2);
        due(n.circuit(0, 1, 0, TIMER), 59);
        due(n.subscriber(0, 0), HEARING);
        Net m = pair(1);
        give(m, 1, 0, 0, 19);
        m.dial(0, 10);
        m.tick(20);
        due(m.circuit(0, 1, 0, STATE), 7);
        due(m.circuit(0, 1, 0, TIMER), 6);
        due(m.subscriber(0, 0), ENDED);
        m.tick(1);
        due(m.counted(KIND), 10);
        due(m.circuit(0, 1, 0, STATE), 7);
        due(m.subscriber(0, 0), ENDED);
        due(m.subscriber(10, 0), IDLE);
    }

    private static void timerOf2() {
        sentence(PART_4, "it is in 2, timer 60");
        // COMPLETE comes in tick 63: OUT in the looking of tick 122.
        Net n = pair(1);
        n.dial(0, 10);
        n.tick(3);
        due(n.circuit(0, 1, 0, TIMER), 59);
        tickTo(n, 120);
        n.answer(10);
        n.tick(1);
        due(n.circuit(0, 1, 0, TIMER), 1);
        n.tick(1);
        due(n.circuit(0, 1, 0, STATE), 3);
        due(n.subscriber(0, 2), 10);
        Net m = pair(1);
        m.dial(0, 10);
        tickTo(m, 121);
        m.answer(10);
        m.tick(1);
        due(m.circuit(0, 1, 0, STATE), 7);
        due(m.circuit(0, 1, 0, TIMER), 6);
        due(m.subscriber(0, 0), ENDED);
        due(m.subscriber(10, 0), TALKING);
        due(m.subscriber(10, 2), NONE);
        m.tick(1);
        due(m.subscriber(10, 0), ENDED);
    }

    private static void timerOf3() {
        sentence(PART_4, "it is in 3, without a timer");
        Net n = pair(1);
        n.dial(0, 10);
        n.tick(3);
        n.answer(10);
        n.tick(2);
        due(n.circuit(0, 1, 0, STATE), 3);
        due(n.circuit(0, 1, 0, TIMER), 0);
        due(n.circuit(1, 0, 0, TIMER), 0);
        n.tick(200);
        due(n.subscriber(0, 2), 10);
        due(n.subscriber(10, 2), 0);
    }

    private static void firstTimerOf7() {
        sentence(PART_4, "Of 7: the first: it sends RELEASE again, that timer is 6");
        // RELEASED behind three comes in the sixth tick, ahead of the timers: no second RELEASE.
        Net n = pair(1);
        n.dial(0, 10);
        n.tick(3);
        int sent = n.end(0, 0, SENT);
        give(n, 1, 0, 0, 4);
        n.hang(0);
        n.tick(5);
        due(n.circuit(0, 1, 0, STATE), 7);
        due(n.circuit(0, 1, 0, TIMER), 1);
        n.tick(1);
        due(n.circuit(0, 1, 0, STATE), 0);
        n.tick(5);
        due(n.end(0, 0, SENT), sent + 1);
        Net m = pair(1);
        m.dial(0, 10);
        m.tick(3);
        give(m, 1, 0, 0, 5);
        m.hang(0);
        m.tick(6);
        due(m.circuit(0, 1, 0, STATE), 7);
        due(m.circuit(0, 1, 0, TIMER), 6);
        due(m.octet(0, 0, 3), 10);
        m.tick(1);
        due(m.circuit(0, 1, 0, STATE), 0);
        m.tick(5);
        due(m.end(0, 0, SENT), sent + 2);
    }

    private static void secondTimerOf7() {
        sentence(PART_4, "the second (looked at behind the first): it sends a RESET, and is in 8, timer 30");
        Net n = pair(1);
        n.dial(0, 10);
        n.tick(3);
        n.route(1, 0, NONE, NONE);
        int sent = n.end(0, 0, SENT);
        n.hang(0);
        n.tick(29);
        due(n.circuit(0, 1, 0, STATE), 7);
        due(n.circuit(0, 1, 0, TIMER), 1);
        // One RELEASE at once, and in ticks 6, 12, 18 and 24.
        due(n.end(0, 0, SENT), sent + 5);
        n.tick(1);
        due(n.circuit(0, 1, 0, STATE), 8);
        due(n.circuit(0, 1, 0, TIMER), 30);
        // In the 30th both: the RELEASE goes first, the RESET waits behind it.
        due(n.octet(0, 0, 3), 10);
        due(n.end(0, 0, WAITING), 1);
        n.tick(1);
        due(n.octet(0, 0, 3), 12);
        // In 8 the timers of 7 are gone.
        n.tick(28);
        due(n.end(0, 0, SENT), sent + 7);
    }

    private static void timerOf8() {
        sentence(PART_4, "Of 8: RESET again, timer 30.");
        Net n = pair(1);
        n.dial(0, 10);
        n.tick(3);
        n.route(1, 0, NONE, NONE);
        n.hang(0);
        n.tick(31);
        int sent = n.end(0, 0, SENT);
        for (int i = 1; i <= 4; i++) {
            n.tick(28);
            due(n.circuit(0, 1, 0, TIMER), 1);
            due(n.end(0, 0, SENT), sent + i - 1);
            n.tick(1);
            due(n.circuit(0, 1, 0, STATE), 8);
            due(n.circuit(0, 1, 0, TIMER), 30);
            due(n.octet(0, 0, 3), 12);
            n.tick(1);
        }
        n.route(1, 0, 0, NONE);
        n.tick(29);
        due(n.circuit(0, 1, 0, STATE), 8);
        n.tick(2);
        due(n.circuit(0, 1, 0, STATE), 0);
    }

    // ---------------------------------------------------------------- TALKS

    private static void talksFar() {
        sentence(PART_4, "and that to the leg that it is joined to, and so on; a subscriber TALKING at the end is "
            + "whom it talks with");
        Net n = row(6);
        n.dial(0, 53);
        n.tick(20);
        due(n.subscriber(53, 0), RINGING);
        n.answer(53);
        n.tick(20);
        due(n.subscriber(0, 2), 53);
        due(n.subscriber(53, 2), 0);
        n.hang(53);
        due(n.subscriber(0, 2), NONE);
        due(n.subscriber(53, 2), NONE);
        // Without any circuit.
        Net m = new Net();
        m.dial(2, 1);
        due(m.subscriber(2, 2), NONE);
        m.answer(1);
        due(m.subscriber(2, 2), 1);
        due(m.subscriber(1, 2), 2);
    }

    private static void talksNotYet() {
        sentence(PART_4, "a circuit's end in 3 or 6 leads to its other end, if that is in 3 or 6");
        Net n = row(3);
        n.dial(0, 20);
        n.tick(10);
        n.answer(20);
        // 6 and 2; then 3 at 1 and 6 behind it, against 2 at 0; then all in 3 or 6.
        due(n.subscriber(20, 2), NONE);
        n.tick(1);
        due(n.subscriber(20, 2), NONE);
        n.tick(1);
        due(n.circuit(1, 2, 0, STATE), 3);
        due(n.circuit(1, 0, 0, STATE), 6);
        due(n.circuit(0, 1, 0, STATE), 2);
        due(n.subscriber(20, 2), NONE);
        n.tick(1);
        due(n.subscriber(20, 2), 0);
        due(n.subscriber(0, 2), 20);
        n.hang(0);
        due(n.subscriber(20, 0), TALKING);
        due(n.subscriber(20, 2), NONE);
        n.tick(2);
        due(n.circuit(1, 2, 0, STATE), 7);
        due(n.subscriber(20, 0), TALKING);
        due(n.subscriber(20, 2), NONE);
    }
}
