/**
 * A signalling network: links that align, prove themselves and repeat what was damaged; exchanges
 * that route messages, change over when links fail and back when they return, and tell each other
 * what can't be reached; telephone calls from exchange to exchange, circuit by circuit.
 *
 * <p>The parts: {@link Transfer} has the links and what exchanges do for messages on their way,
 * {@link Switchboard} has circuits and subscribers. The switchboard posts its messages, and this
 * class hands them on: routing a message never changes a circuit, so nothing is out of order.
 */
public final class SignalNetwork {
    public static final int NONE = -1;

    private static final int EXCHANGES = 6;
    private static final int PAIRS = EXCHANGES * EXCHANGES;
    private static final int SUBSCRIBERS = 4;
    /** As many flows, and as many circuits, lead from an exchange to each neighbour. */
    private static final int LANES = 4;
    private static final int MOST_LINKS = 10;
    private static final int MOST_IN_SET = 4;
    private static final int MOST_DAMAGED = 100;
    private static final int MOST_TICKS = 200;

    /** The states of a link's end. */
    private static final int OUT = 0;
    private static final int SEEKING = 1;
    private static final int ALIGNED = 2;
    private static final int PROVING = 3;
    private static final int READY = 4;
    private static final int IN_SERVICE = 5;

    /** The types of a unit; the first four are the octet that tells them. */
    private static final int STOP = 0;
    private static final int SEEK = 1;
    private static final int PROVE = 2;
    private static final int URGENT_PROVE = 3;
    private static final int FILL = 4;
    private static final int MESSAGE = 5;
    private static final int BAD = 6;

    /** The kinds of a message. */
    private static final int OVER = 1;
    private static final int OVERED = 2;
    private static final int BACK = 3;
    private static final int BACKED = 4;
    private static final int CLOSED = 5;
    private static final int OPENED = 6;
    private static final int INITIAL = 7;
    private static final int COMPLETE = 8;
    private static final int ANSWER = 9;
    private static final int RELEASE = 10;
    private static final int RELEASED = 11;
    private static final int RESET = 12;
    private static final int BLOCK = 13;
    private static final int UNBLOCK = 14;

    private final Clock clock;
    private final Plan plan;
    private final Transfer transfer;
    private final Switchboard switchboard;
    private final int[] octets;

    public SignalNetwork() {
        clock = new Clock();
        plan = new Plan();
        transfer = new Transfer(plan, clock);
        switchboard = new Switchboard(plan, clock);
        octets = new int[Unit.MOST_OCTETS];
    }

    public int link(int a, int b) {
        int number = plan.addLink(a, b);
        if (number != NONE) {
            transfer.addEnds(number);
            switchboard.addCircuits(a, b);
        }
        return number;
    }

    public boolean route(int x, int d, int first, int second) {
        if (!plan.tell(x, d, first, second)) {
            return false;
        }
        transfer.look(x);
        return true;
    }

    public boolean activate(int link, boolean on) {
        if (!plan.isLink(link) || plan.active[link] == on) {
            return false;
        }
        plan.active[link] = on;
        transfer.switchEnds(link, on);
        return true;
    }

    public boolean cut(int link, boolean on) {
        if (!plan.isLink(link)) {
            return false;
        }
        plan.cut[link] = on;
        return true;
    }

    public boolean damage(int link, int side, int n) {
        End end = transfer.endOf(link, side);
        if (end == null || n < 0 || n > MOST_DAMAGED) {
            return false;
        }
        end.damaged = n;
        return true;
    }

    public int tick(int n) {
        if (n < 0 || n > MOST_TICKS) {
            return NONE;
        }
        for (int i = 0; i < n; i++) {
            for (int e = 0; e < 2 * plan.links; e++) {
                long message = transfer.receive(e);
                if (message != Message.ABSENT && transfer.get(e, message)) {
                    switchboard.get(message);
                    sendPosted();
                }
            }
            clock.beginLooking();
            transfer.runTimers();
            runCircuitTimers();
            transfer.sendUnits();
        }
        return clock.lookings;
    }

    public boolean dial(int subscriber, int number) {
        boolean calls = switchboard.call(subscriber, number);
        sendPosted();
        return calls;
    }

    public boolean answer(int subscriber) {
        boolean answers = switchboard.pickUp(subscriber);
        sendPosted();
        return answers;
    }

    public boolean hang(int subscriber) {
        boolean hangs = switchboard.putDown(subscriber);
        sendPosted();
        return hangs;
    }

    public boolean block(int x, int neighbour, int c, boolean on) {
        boolean blocks = switchboard.setBlocked(x, neighbour, c, on);
        sendPosted();
        return blocks;
    }

    public int end(int link, int side, int what) {
        End end = transfer.endOf(link, side);
        return end == null ? NONE : end.tell(what);
    }

    public int octet(int link, int side, int i) {
        int count = spellLatest(link, side);
        return i < 0 || i >= count ? NONE : octets[i];
    }

    public int bits(int link, int side) {
        int count = spellLatest(link, side);
        return count == 0 ? NONE : Unit.bitsOnLine(octets, count);
    }

    public int flow(int x, int neighbour, int s, int what) {
        Flow flow = transfer.flowTo(x, neighbour, s);
        return flow == null ? NONE : flow.tell(what);
    }

    public int next(int x, int d, int what) {
        return transfer.tellWay(x, d, what);
    }

    public int circuit(int x, int neighbour, int c, int what) {
        Leg leg = switchboard.circuitAt(x, neighbour, c);
        return leg == null ? NONE : leg.tellCircuit(what, clock);
    }

    public int subscriber(int number, int what) {
        Leg leg = switchboard.subscriberAt(number);
        if (leg == null) {
            return NONE;
        }
        switch (what) {
            case 0: return leg.state;
            case 1: return leg.joinedCode();
            case 2: return switchboard.talksWith(leg);
            default: return NONE;
        }
    }

    public int counted(int what) {
        switch (what) {
            case 0: return clock.lookings;
            case 1: return transfer.lost;
            case 2: return transfer.done;
            case 3: return transfer.latestKind;
            default: return NONE;
        }
    }

    /** Spells the unit that an end sent latest; answers how many octets it has, 0 without one. */
    private int spellLatest(int link, int side) {
        End end = transfer.endOf(link, side);
        return end == null || !end.hasSent ? 0 : end.unit.spell(octets);
    }

    private void runCircuitTimers() {
        for (int i = 0; i < switchboard.circuitPlaces(); i++) {
            if (switchboard.runTimers(i)) {
                sendPosted();
            }
        }
    }

    private void sendPosted() {
        for (int left = switchboard.posted.size; left > 0; left--) {
            transfer.send(switchboard.posted.takeFirst());
        }
    }

    /** Timers are kept as the number of the looking at which they run out; 0 is none. */
    private static final class Clock {
        /** How many lookings at the timers began: one in each tick. */
        int lookings;

        void beginLooking() {
            lookings++;
        }

        int after(int n) {
            return lookings + n;
        }

        boolean isOut(int timer) {
            return timer != 0 && timer <= lookings;
        }

        int left(int timer) {
            return timer == 0 ? 0 : timer - lookings;
        }
    }

    /** What was set up from outside: links, and the neighbours told for exchanges. */
    private static final class Plan {
        int links;
        final int[] lower = new int[MOST_LINKS];
        final int[] higher = new int[MOST_LINKS];
        final boolean[] active = new boolean[MOST_LINKS];
        final boolean[] cut = new boolean[MOST_LINKS];
        /** How many links there are between two exchanges, told in both orders. */
        private final int[] setSizes = new int[PAIRS];
        private final int[] firsts = new int[PAIRS];
        private final int[] seconds = new int[PAIRS];

        Plan() {
            for (int i = 0; i < PAIRS; i++) {
                firsts[i] = NONE;
                seconds[i] = NONE;
            }
        }

        static boolean isExchange(int x) {
            return x >= 0 && x < EXCHANGES;
        }

        static boolean areTwo(int x, int y) {
            return isExchange(x) && isExchange(y) && x != y;
        }

        boolean isLink(int link) {
            return link >= 0 && link < links;
        }

        int setSize(int x, int y) {
            if (x < 0 || x >= EXCHANGES || y < 0 || y >= EXCHANGES) {
                return 0;
            }
            return setSizes[x * EXCHANGES + y];
        }

        boolean areNeighbours(int x, int y) {
            return setSize(x, y) > 0;
        }

        int addLink(int a, int b) {
            if (!areTwo(a, b) || links >= MOST_LINKS || setSize(a, b) >= MOST_IN_SET) {
                return NONE;
            }
            lower[links] = Math.min(a, b);
            higher[links] = Math.max(a, b);
            setSizes[a * EXCHANGES + b]++;
            setSizes[b * EXCHANGES + a]++;
            links++;
            return links - 1;
        }

        boolean tell(int x, int d, int first, int second) {
            if (!areTwo(x, d) || !mayBeTold(x, first) || !mayBeTold(x, second)) {
                return false;
            }
            if (first == second && first != NONE) {
                return false;
            }
            firsts[x * EXCHANGES + d] = first;
            seconds[x * EXCHANGES + d] = second;
            return true;
        }

        private static boolean mayBeTold(int x, int neighbour) {
            return neighbour == NONE || areTwo(x, neighbour);
        }

        /** The first (0) or second (1) neighbour told for d; NONE, too, while it is no neighbour. */
        int told(int x, int d, int which) {
            if (x < 0 || x >= EXCHANGES || d < 0 || d >= EXCHANGES) {
                return NONE;
            }
            int neighbour = which == 0 ? firsts[x * EXCHANGES + d] : seconds[x * EXCHANGES + d];
            boolean isOne = neighbour != NONE && setSizes[x * EXCHANGES + neighbour] > 0;
            return isOne ? neighbour : NONE;
        }
    }

    /** Messages are packed into a long, so that sending and keeping them makes no objects. */
    private static final class Message {
        static final long ABSENT = 0;

        static long of(int kind, int from, int to, int lane, int first, int second) {
            long numbers = (long) (first & 255) << 12 | (long) (second & 65535) << 20;
            return numbers | kind | from << 4 | to << 7 | lane << 10;
        }

        static int kind(long message) {
            return (int) message & 15;
        }

        static int from(long message) {
            return (int) (message >> 4) & 7;
        }

        static int to(long message) {
            return (int) (message >> 7) & 7;
        }

        static int lane(long message) {
            return (int) (message >> 10) & 3;
        }

        static int first(long message) {
            return (int) (message >> 12) & 255;
        }

        static int second(long message) {
            return (int) (message >> 20) & 65535;
        }

        static int hops(long message) {
            return (int) (message >> 36) & 15;
        }

        static long hopped(long message) {
            return message + (1L << 36);
        }
    }

    /** Messages in order, up to a limit: a ring that is made once. */
    private static final class Queue {
        private final long[] ring;
        private int head;
        int size;

        Queue(int limit) {
            ring = new long[Math.max(limit, 1)];
        }

        /** False, and nothing, when it is full. */
        boolean add(long message) {
            if (size >= ring.length) {
                return false;
            }
            int place = head + size;
            ring[place < ring.length ? place : place - ring.length] = message;
            size++;
            return true;
        }

        long at(int i) {
            if (i < 0 || i >= size) {
                return Message.ABSENT;
            }
            int place = head + i;
            return ring[place < ring.length ? place : place - ring.length];
        }

        long takeFirst() {
            long message = at(0);
            drop(1);
            return message;
        }

        void drop(int n) {
            int dropped = n < size ? n : size;
            head += dropped;
            head = head < ring.length ? head : head - ring.length;
            size -= dropped;
        }
    }

    /** What an end sends in a tick. */
    private static final class Unit {
        static final int MOST_OCTETS = 13;

        int type;
        int number;
        int forward;
        int taken;
        int backward;
        int life;
        long message;

        /** Writes the octets into the row, which has room for MOST_OCTETS; answers how many. */
        int spell(int[] row) {
            int count = type < FILL ? spellState(row) : spellNumbered(row);
            int check = checkOf(row, count);
            row[count] = check & 255;
            row[count + 1] = check >> 8;
            return count + 2;
        }

        private int spellState(int[] row) {
            row[0] = 255;
            row[1] = 255;
            row[2] = 1;
            row[3] = type >= PROVE ? type + 4 * life : type;
            return 4;
        }

        private int spellNumbered(int[] row) {
            row[0] = taken + 128 * backward;
            row[1] = number + 128 * forward;
            row[2] = type == MESSAGE ? 8 : 0;
            if (type != MESSAGE) {
                return 3;
            }
            int label = Message.to(message) | Message.from(message) << 14 | Message.lane(message) << 28;
            row[3] = Message.kind(message);
            for (int i = 0; i < 4; i++) {
                row[4 + i] = label >> 8 * i & 255;
            }
            row[8] = Message.first(message);
            row[9] = Message.second(message) & 255;
            row[10] = Message.hops(message);
            return 11;
        }

        private static int checkOf(int[] row, int count) {
            int c = 65535;
            for (int i = 0; i < 8 * count; i++) {
                int bit = row[i / 8] >> i % 8 & 1;
                c = bit == (c & 1) ? c >> 1 : c >> 1 ^ 33800;
            }
            return c ^ 65535;
        }

        static int bitsOnLine(int[] row, int count) {
            int bits = 8 * count;
            int ones = 0;
            for (int i = 0; i < 8 * count; i++) {
                ones = (row[i / 8] >> i % 8 & 1) == 1 ? ones + 1 : 0;
                if (ones == 5) {
                    bits++;
                    ones = 0;
                }
            }
            return bits;
        }
    }

    /** An end's numbers and bits, and the messages that it sent or that wait. */
    private static final class Window {
        private static final int NUMBERS = 128;
        private static final int MOST_UNACKNOWLEDGED = 32;
        static final int MOST_WAITING = 64;
        private static final int PATIENCE = 20;

        private final Clock clock;
        int sent;
        int taken;
        int forward;
        int backward;
        /** Which of those not acknowledged is repeated next; NONE while it doesn't repeat. */
        int repeatAt;
        int timer;
        final Queue unacknowledged = new Queue(MOST_UNACKNOWLEDGED);
        final Queue waiting = new Queue(MOST_WAITING);

        Window(Clock clock) {
            this.clock = clock;
            reset();
        }

        void reset() {
            sent = NUMBERS - 1;
            taken = NUMBERS - 1;
            forward = 1;
            backward = 1;
            stop();
        }

        /** The messages stay: a changeover takes them elsewhere. */
        void stop() {
            repeatAt = NONE;
            timer = 0;
        }

        /** Treats a FILL or MESSAGE; true when it is a message that is taken. */
        boolean treat(Unit unit) {
            acknowledge(unit.taken);
            if (unit.backward != forward) {
                forward = unit.backward;
                repeatAt = unacknowledged.size > 0 ? 0 : NONE;
            }
            if (unit.forward != backward || unit.number == taken) {
                return false;
            }
            if (unit.type == MESSAGE && unit.number == (taken + 1) % NUMBERS) {
                taken = unit.number;
                return true;
            }
            backward = 1 - backward;
            return false;
        }

        /** Acknowledges up to the number, if it is that of one that is not acknowledged. */
        void acknowledge(int number) {
            int ahead = Math.floorMod(number - numberOf(0), NUMBERS);
            if (ahead >= unacknowledged.size) {
                return;
            }
            unacknowledged.drop(ahead + 1);
            if (unacknowledged.size == 0) {
                stop();
                return;
            }
            timer = clock.after(PATIENCE);
            if (repeatAt != NONE) {
                repeatAt = Math.max(0, repeatAt - ahead - 1);
            }
        }

        /** The number of the i-th that is not acknowledged: they have the latest numbers. */
        private int numberOf(int i) {
            return Math.floorMod(sent - unacknowledged.size + 1 + i, NUMBERS);
        }

        void fill(Unit unit) {
            unit.type = MESSAGE;
            if (repeatAt != NONE) {
                repeat(unit);
            } else if (waiting.size > 0 && unacknowledged.size < MOST_UNACKNOWLEDGED) {
                sendAnew(unit);
            } else {
                unit.type = FILL;
                unit.number = sent;
                unit.message = Message.ABSENT;
            }
            unit.forward = forward;
            unit.taken = taken;
            unit.backward = backward;
        }

        private void repeat(Unit unit) {
            unit.number = numberOf(repeatAt);
            unit.message = unacknowledged.at(repeatAt);
            repeatAt = repeatAt + 1 < unacknowledged.size ? repeatAt + 1 : NONE;
        }

        private void sendAnew(Unit unit) {
            if (unacknowledged.size == 0) {
                timer = clock.after(PATIENCE);
            }
            sent = (sent + 1) % NUMBERS;
            unit.number = sent;
            unit.message = waiting.takeFirst();
            unacknowledged.add(unit.message);
        }
    }

    /** A link's end: how it aligns, proves itself and stays in service. */
    private static final class End {
        /** What a unit that arrives asks of the exchange. */
        static final int NOTHING = 0;
        static final int FAILS = 1;
        static final int COMES_UP = 2;
        static final int TREATS = 3;

        private static final int SEEKING_TIME = 30;
        private static final int TIME_TO_GO_ON = 15;
        private static final int OUT_TIME = 12;
        private static final int PROVING_TIME = 8;
        private static final int URGENT_TIME = 3;
        private static final int LAST_ROUND = 5;
        private static final int MOST_CREDIT = 6;
        private static final int UNITS_A_CREDIT = 16;
        private static final int LIVES = 16;

        private final Clock clock;
        final int link;
        final int exchange;
        final int neighbour;
        final Window window;
        /** The unit sent latest; it tells a STOP, too, when none was sent. */
        final Unit unit = new Unit();
        boolean hasSent;
        int state = OUT;
        int timer;
        int life;
        int peer;
        int damaged;
        /** The timer of the changeover of this end; 0 when none is under way. */
        int changeover;
        private boolean urgent;
        private int provingTime;
        private int round;
        private int errors;
        private int credit;
        private int arrived;

        End(int link, int exchange, int neighbour, Clock clock) {
            this.link = link;
            this.exchange = exchange;
            this.neighbour = neighbour;
            this.clock = clock;
            window = new Window(clock);
        }

        void start(boolean isUrgent) {
            enter(SEEKING, SEEKING_TIME);
            urgent = isUrgent;
            life = (life + 1) % LIVES;
        }

        void fallOut() {
            state = OUT;
            timer = clock.after(OUT_TIME);
            window.stop();
        }

        private void enter(int newState, int time) {
            state = newState;
            timer = clock.after(time);
        }

        /** Counts the unit among those to be damaged, whatever else makes it BAD. */
        boolean isDamagedNow() {
            if (damaged == 0) {
                return false;
            }
            damaged--;
            return true;
        }

        int hear(int type, int lifeBorne) {
            if (state == OUT) {
                return NOTHING;
            }
            if (isProve(type)) {
                peer = lifeBorne;
            }
            switch (state) {
                case SEEKING: return hearSeeking(type);
                case ALIGNED: return hearAligned(type);
                case PROVING: return hearProving(type);
                default: return hearReady(type);
            }
        }

        private static boolean isProve(int type) {
            return type == PROVE || type == URGENT_PROVE;
        }

        private int hearSeeking(int type) {
            if (type == SEEK || isProve(type)) {
                enter(ALIGNED, TIME_TO_GO_ON);
            }
            return NOTHING;
        }

        private int hearAligned(int type) {
            if (isProve(type)) {
                round = 1;
                prove(urgent || type == URGENT_PROVE ? URGENT_TIME : PROVING_TIME);
            }
            return type == STOP ? FAILS : NOTHING;
        }

        private void prove(int time) {
            state = PROVING;
            timer = clock.after(time);
            provingTime = time;
            errors = 0;
        }

        private int hearProving(int type) {
            switch (type) {
                case BAD: return err();
                case STOP: return FAILS;
                case SEEK:
                    enter(ALIGNED, TIME_TO_GO_ON);
                    return NOTHING;
                case URGENT_PROVE:
                    if (provingTime == PROVING_TIME) {
                        prove(URGENT_TIME);
                    }
                    return NOTHING;
                default: return NOTHING;
            }
        }

        private int err() {
            errors++;
            if (errors < (provingTime == URGENT_TIME ? 1 : 2)) {
                return NOTHING;
            }
            round++;
            if (round >= LAST_ROUND) {
                return FAILS;
            }
            prove(provingTime);
            return NOTHING;
        }

        private int hearReady(int type) {
            arrived = (arrived + 1) % UNITS_A_CREDIT;
            if (arrived == 0 && credit > 0) {
                credit--;
            }
            switch (type) {
                case BAD:
                    credit++;
                    return credit >= MOST_CREDIT ? FAILS : NOTHING;
                case FILL:
                case MESSAGE:
                    return serve();
                case PROVE:
                case URGENT_PROVE:
                    return state == IN_SERVICE ? FAILS : NOTHING;
                default: return FAILS;
            }
        }

        private int serve() {
            if (state == IN_SERVICE) {
                return TREATS;
            }
            state = IN_SERVICE;
            timer = 0;
            return COMES_UP;
        }

        void becomeReady() {
            enter(READY, TIME_TO_GO_ON);
            window.reset();
            credit = 0;
            arrived = 0;
        }

        void sendUnit() {
            hasSent = true;
            unit.life = life;
            switch (state) {
                case OUT:
                    unit.type = STOP;
                    break;
                case SEEKING:
                    unit.type = SEEK;
                    break;
                case ALIGNED:
                case PROVING:
                    unit.type = urgent ? URGENT_PROVE : PROVE;
                    break;
                default:
                    window.fill(unit);
                    break;
            }
        }

        int tell(int what) {
            switch (what) {
                case 0: return state;
                case 1: return clock.left(timer);
                case 2: return window.sent;
                case 3: return window.taken;
                case 4: return window.forward;
                case 5: return window.backward;
                case 6: return window.unacknowledged.size;
                case 7: return window.waiting.size;
                case 8: return credit;
                case 9: return round;
                case 10: return urgent ? 1 : 0;
                case 11: return clock.left(window.timer);
                case 12: return window.repeatAt == NONE ? 0 : 1;
                case 13: return damaged;
                case 14: return life;
                case 15: return peer;
                default: return NONE;
            }
        }
    }

    /** One of the ways on which an exchange gives messages to a neighbour. */
    private static final class Flow {
        static final int FREE = 0;
        static final int FOR_CHANGEOVER = 1;
        static final int FOR_CHANGEBACK = 2;
        private static final int MOST_KEPT = 64;

        final int neighbour;
        /** This exchange's end of the current link; null without one. */
        End current;
        int held = FREE;
        /** The end whose changeover holds the flow; null when none does. */
        End heldFor;
        /** The timer of the changeback. */
        int timer;
        /** How many changebacks it began, modulo 256. */
        int began;
        final Queue kept = new Queue(MOST_KEPT);

        Flow(int neighbour) {
            this.neighbour = neighbour;
        }

        boolean isOpen() {
            return current != null || held != FREE;
        }

        /** Where a message that is given goes; null if the flow isn't open. */
        Queue place() {
            if (held != FREE) {
                return kept;
            }
            return current == null ? null : current.window.waiting;
        }

        void holdFor(End end) {
            held = FOR_CHANGEOVER;
            heldFor = end;
            current = null;
            timer = 0;
        }

        void free(End best) {
            held = FREE;
            heldFor = null;
            current = best;
            timer = 0;
        }

        int tell(int what) {
            switch (what) {
                case 0: return current == null ? NONE : current.link;
                case 1: return held;
                case 2: return kept.size;
                case 3: return heldFor == null ? NONE : heldFor.link;
                default: return NONE;
            }
        }
    }

    /** What exchanges do for messages on their way: links, flows, changeovers, what is closed. */
    private static final class Transfer {
        private static final int CHANGEOVER_TIME = 10;
        private static final int CHANGEBACK_TIME = 20;
        private static final int CHANGEBACKS = 256;
        /** An OVER's first number is the link and so many times the LIFE. */
        private static final int LINK_ROOM = 16;
        private static final int MOST_HOPS = 8;
        private static final int UNTOLD = 0;

        private final Plan plan;
        private final Clock clock;
        /** By link and side. */
        private final End[] ends = new End[2 * MOST_LINKS];
        /** By exchange, neighbour and place in the set: the exchange's end of that link. */
        private final End[] sets = new End[PAIRS * MOST_IN_SET];
        /** By exchange, neighbour and number. */
        private final Flow[] flows = new Flow[PAIRS * LANES];
        /** By exchange, neighbour and d. */
        private final boolean[] prohibited = new boolean[PAIRS * EXCHANGES];
        /** By exchange, neighbour and d: CLOSED, OPENED or UNTOLD. */
        private final int[] told = new int[PAIRS * EXCHANGES];
        int lost;
        int done;
        int latestKind;

        Transfer(Plan plan, Clock clock) {
            this.plan = plan;
            this.clock = clock;
        }

        void addEnds(int link) {
            if (plan.isLink(link)) {
                addEnd(2 * link, plan.lower[link], plan.higher[link]);
                addEnd(2 * link + 1, plan.higher[link], plan.lower[link]);
            }
        }

        private void addEnd(int place, int x, int neighbour) {
            int pair = x * EXCHANGES + neighbour;
            End end = new End(place / 2, x, neighbour, clock);
            ends[place] = end;
            sets[pair * MOST_IN_SET + plan.setSize(x, neighbour) - 1] = end;
            for (int s = 0; s < LANES; s++) {
                if (flows[pair * LANES + s] == null) {
                    flows[pair * LANES + s] = new Flow(neighbour);
                }
            }
        }

        End endOf(int link, int side) {
            return !plan.isLink(link) || side < 0 || side > 1 ? null : ends[2 * link + side];
        }

        Flow flowTo(int x, int neighbour, int s) {
            if (x < 0 || x >= EXCHANGES || neighbour < 0 || neighbour >= EXCHANGES || s < 0 || s >= LANES) {
                return null;
            }
            return flows[(x * EXCHANGES + neighbour) * LANES + s];
        }

        private static int placeOf(int x, int neighbour, int d) {
            return (x * EXCHANGES + neighbour) * EXCHANGES + d;
        }

        /** What x knows of the ways to d; what: as of next. */
        int tellWay(int x, int d, int what) {
            if (!Plan.areTwo(x, d)) {
                return NONE;
            }
            if (what == 0) {
                Flow way = wayTo(x, d, 0, NONE);
                return way == null ? NONE : way.neighbour;
            }
            int neighbour = what % 10;
            if (!plan.areNeighbours(x, neighbour)) {
                return NONE;
            }
            int place = placeOf(x, neighbour, d);
            switch (what / 10) {
                case 1: return prohibited[place] ? 1 : 0;
                case 2: return told[place] == UNTOLD ? NONE : told[place] == CLOSED ? 1 : 0;
                default: return NONE;
            }
        }

        void switchEnds(int link, boolean on) {
            for (int side = 0; side < 2; side++) {
                End end = endOf(link, side);
                if (end == null) {
                    continue;
                }
                if (on && end.state == OUT && end.timer == 0) {
                    start(end);
                } else if (!on && end.state != OUT) {
                    fail(end);
                }
            }
        }

        private void start(End end) {
            end.start(best(end.exchange, end.neighbour, 0) == null);
        }

        /** The exchange's end of the link that is BEST for a flow: for flow 0 the lowest in service. */
        private End best(int x, int neighbour, int s) {
            int n = plan.setSize(x, neighbour);
            int set = (x * EXCHANGES + neighbour) * MOST_IN_SET;
            for (int i = 0; i < n; i++) {
                End end = sets[set + (s + i) % n];
                if (end != null && end.state == IN_SERVICE) {
                    return end;
                }
            }
            return null;
        }

        /** Lets a unit arrive at an end; answers the message that it took there, or ABSENT. */
        long receive(int place) {
            End end = endOf(place / 2, place % 2);
            End other = endOf(place / 2, 1 - place % 2);
            if (end == null || other == null) {
                return Message.ABSENT;
            }
            boolean damaged = end.isDamagedNow();
            int type = damaged || plan.cut[end.link] ? BAD : other.unit.type;
            int asked = end.hear(type, other.unit.life);
            if (asked == End.FAILS) {
                fail(end);
            }
            if (asked == End.COMES_UP) {
                comeUp(end);
            }
            boolean treats = asked == End.COMES_UP || asked == End.TREATS;
            return treats && end.window.treat(other.unit) ? other.unit.message : Message.ABSENT;
        }

        /** The exchange of an end gets a message; true when it is one of its circuits. */
        boolean get(int place, long message) {
            End end = endOf(place / 2, place % 2);
            int x = end == null ? NONE : end.exchange;
            if (Message.to(message) != x) {
                passOn(x, message);
                return false;
            }
            done++;
            latestKind = Message.kind(message);
            switch (latestKind) {
                case OVER:
                case OVERED:
                    changeOver(x, message);
                    return false;
                case BACK:
                    confirmBack(x, message);
                    return false;
                case BACKED:
                    changeBack(x, message);
                    return false;
                case CLOSED:
                case OPENED:
                    prohibit(x, message);
                    return false;
                default:
                    return true;
            }
        }

        private void passOn(int x, long message) {
            long hopped = Message.hopped(message);
            if (Message.hops(hopped) >= MOST_HOPS) {
                lost++;
                return;
            }
            give(wayTo(x, Message.to(message), Message.lane(message), NONE), hopped);
        }

        /** Routes a message from the exchange that makes it. */
        void send(long message) {
            give(wayTo(Message.from(message), Message.to(message), Message.lane(message), NONE), message);
        }

        /** The flow on which a message for d goes, by another neighbour than the one shunned. */
        private Flow wayTo(int x, int d, int s, int shunned) {
            for (int which = 0; which < 2; which++) {
                int neighbour = plan.told(x, d, which);
                Flow flow = neighbour == shunned ? null : flowTo(x, neighbour, s);
                if (flow != null && flow.isOpen() && !prohibited[placeOf(x, neighbour, d)]) {
                    return flow;
                }
            }
            return null;
        }

        /** Without a flow, or with one that isn't open, the message is lost. */
        private void give(Flow flow, long message) {
            Queue place = flow == null ? null : flow.place();
            if (place == null || !place.add(message)) {
                lost++;
            }
        }

        private void waitAt(End end, long message) {
            if (!end.window.waiting.add(message)) {
                lost++;
            }
        }

        private void goOtherWay(int x, int neighbour, long message) {
            End lowest = best(x, neighbour, 0);
            if (lowest != null) {
                waitAt(lowest, message);
            } else {
                give(wayTo(x, neighbour, Message.lane(message), neighbour), message);
            }
        }

        private void comeUp(End end) {
            int x = end.exchange;
            int neighbour = end.neighbour;
            boolean wasOpen = false;
            for (int s = 0; s < LANES; s++) {
                Flow flow = flowTo(x, neighbour, s);
                wasOpen |= flow != null && flow.isOpen();
            }
            for (int s = 0; s < LANES; s++) {
                Flow flow = flowTo(x, neighbour, s);
                if (flow != null && flow.held == Flow.FREE) {
                    useBest(flow, x, s);
                }
            }
            for (int d = 0; d < EXCHANGES && !wasOpen; d++) {
                told[placeOf(x, neighbour, d)] = UNTOLD;
            }
            look(x);
        }

        private void useBest(Flow flow, int x, int s) {
            End best = best(x, flow.neighbour, s);
            if (flow.current == null) {
                flow.current = best;
            } else if (flow.current != best) {
                flow.began = (flow.began + 1) % CHANGEBACKS;
                sendBack(flow, x, s);
                flow.held = Flow.FOR_CHANGEBACK;
            }
        }

        /** The BACK has to come behind all that the flow sent on its current link, so it waits there. */
        private void sendBack(Flow flow, int x, int s) {
            if (flow.current != null) {
                waitAt(flow.current, Message.of(BACK, x, flow.neighbour, s, s, flow.began));
            }
            flow.timer = clock.after(CHANGEBACK_TIME);
        }

        private void fail(End end) {
            if (takeOut(end)) {
                goOtherWay(end.exchange, end.neighbour, overOf(end, OVER));
                look(end.exchange);
            }
        }

        /** True when it was in service, so that a changeover is under way now. */
        private boolean takeOut(End end) {
            boolean served = end.state == IN_SERVICE;
            end.fallOut();
            if (!served) {
                return false;
            }
            end.changeover = clock.after(CHANGEOVER_TIME);
            for (int s = 0; s < LANES; s++) {
                Flow flow = flowTo(end.exchange, end.neighbour, s);
                if (flow != null && flow.current == end) {
                    flow.holdFor(end);
                }
            }
            return true;
        }

        private static long overOf(End end, int kind) {
            int first = end.link + LINK_ROOM * end.life;
            return Message.of(kind, end.exchange, end.neighbour, 0, first, end.window.taken);
        }

        /** OVER or OVERED; of another life of the link it comes too late. */
        private void changeOver(int x, long message) {
            int link = Message.first(message) % LINK_ROOM;
            int life = Message.first(message) / LINK_ROOM;
            End end = endOf(link, Message.from(message) < x ? 1 : 0);
            if (end == null || end.exchange != x || end.peer != life) {
                return;
            }
            if (Message.kind(message) == OVER) {
                // The other exchange knows: it needs no OVER of this end's failing.
                if (end.state == IN_SERVICE) {
                    takeOut(end);
                    look(x);
                }
                goOtherWay(x, end.neighbour, overOf(end, OVERED));
            }
            endChangeover(end, Message.second(message));
        }

        /** Ends it with the number that the other end took latest, or with NONE. */
        private void endChangeover(End end, int number) {
            if (end.changeover == 0) {
                return;
            }
            end.changeover = 0;
            Queue unacknowledged = end.window.unacknowledged;
            if (number == NONE) {
                lost += unacknowledged.size;
                unacknowledged.drop(unacknowledged.size);
            } else {
                end.window.acknowledge(number);
            }
            end.window.stop();
            for (int s = 0; s < LANES; s++) {
                Flow flow = flowTo(end.exchange, end.neighbour, s);
                if (flow != null && flow.heldFor == end) {
                    flow.free(best(end.exchange, end.neighbour, s));
                }
            }
            giveAgain(end, unacknowledged);
            giveAgain(end, end.window.waiting);
            for (int s = 0; s < LANES; s++) {
                Flow flow = flowTo(end.exchange, end.neighbour, s);
                // A flow that is free has kept messages only if it was held till now.
                if (flow != null && flow.held == Flow.FREE) {
                    giveAgain(end, flow.kept);
                }
            }
            look(end.exchange);
        }

        private void giveAgain(End end, Queue queue) {
            for (int left = queue.size; left > 0; left--) {
                long message = queue.takeFirst();
                int kind = Message.kind(message);
                // They were about the order on this link; on another one they would say nothing.
                if (kind == BACK || kind == BACKED) {
                    continue;
                }
                int s = Message.lane(message);
                Flow flow = flowTo(end.exchange, end.neighbour, s);
                if (kind >= INITIAL && flow != null && !flow.isOpen()) {
                    flow = wayTo(end.exchange, Message.to(message), s, NONE);
                }
                give(flow, message);
            }
        }

        private void confirmBack(int x, long message) {
            int sender = Message.from(message);
            int s = Message.first(message);
            goOtherWay(x, sender, Message.of(BACKED, x, sender, s, s, Message.second(message)));
        }

        private void changeBack(int x, long message) {
            int s = Message.first(message);
            Flow flow = flowTo(x, Message.from(message), s);
            if (flow == null || flow.held != Flow.FOR_CHANGEBACK || flow.began != Message.second(message)) {
                return;
            }
            flow.free(best(x, flow.neighbour, s));
            for (int left = flow.kept.size; left > 0; left--) {
                give(flow, flow.kept.takeFirst());
            }
        }

        private void prohibit(int x, long message) {
            int d = Message.first(message);
            int sender = Message.from(message);
            if (plan.areNeighbours(x, sender) && Plan.isExchange(d)) {
                prohibited[placeOf(x, sender, d)] = Message.kind(message) == CLOSED;
                look(x);
            }
        }

        /** Tells the neighbours what they don't know yet of what can be reached by x. */
        void look(int x) {
            for (int i = 0; i < PAIRS; i++) {
                int d = i / EXCHANGES;
                int neighbour = i % EXCHANGES;
                Flow flow = flowTo(x, neighbour, 0);
                if (flow == null || !flow.isOpen() || d == x || d == neighbour) {
                    continue;
                }
                Flow way = wayTo(x, d, 0, NONE);
                int kind = way == null || way == flow ? CLOSED : OPENED;
                int place = placeOf(x, neighbour, d);
                if (told[place] != kind) {
                    told[place] = kind;
                    give(flow, Message.of(kind, x, neighbour, 0, d, 0));
                }
            }
        }

        void runTimers() {
            for (int i = 0; i < 2 * plan.links; i++) {
                runEndTimers(ends[i]);
            }
            for (int x = 0; x < EXCHANGES; x++) {
                runChangeoverTimers(x);
                runChangebackTimers(x);
            }
        }

        private void runEndTimers(End end) {
            if (end == null) {
                return;
            }
            if (clock.isOut(end.timer)) {
                end.timer = 0;
                if (end.state == PROVING) {
                    end.becomeReady();
                } else if (end.state != OUT) {
                    fail(end);
                } else if (plan.active[end.link]) {
                    start(end);
                }
            }
            if (clock.isOut(end.window.timer)) {
                fail(end);
            }
        }

        private void runChangeoverTimers(int x) {
            for (int i = 0; i < 2 * plan.links; i++) {
                End end = ends[i];
                if (end != null && end.exchange == x && clock.isOut(end.changeover)) {
                    endChangeover(end, NONE);
                }
            }
        }

        private void runChangebackTimers(int x) {
            for (int neighbour = 0; neighbour < EXCHANGES; neighbour++) {
                for (int s = 0; s < LANES; s++) {
                    Flow flow = flowTo(x, neighbour, s);
                    if (flow != null && clock.isOut(flow.timer)) {
                        sendBack(flow, x, s);
                    }
                }
            }
        }

        void sendUnits() {
            for (int i = 0; i < 2 * plan.links; i++) {
                if (ends[i] != null) {
                    ends[i].sendUnit();
                }
            }
        }
    }

    /** What a call joins: a subscriber, or a circuit's end at an exchange. */
    private static final class Leg {
        /** The states of a subscriber. */
        static final int IDLE = 0;
        static final int CALLING = 1;
        static final int HEARING = 2;
        static final int RINGING = 3;
        static final int TALKING = 4;
        static final int ENDED = 5;

        /** The states of a circuit's end, which may be IDLE, too. */
        static final int ASKED = 1;
        static final int COMPLETED = 2;
        static final int ANSWERED = 3;
        static final int WAS_ASKED = 4;
        static final int SENT_COMPLETE = 5;
        static final int SENT_ANSWER = 6;
        static final int RELEASES = 7;
        static final int RESETS = 8;

        final int exchange;
        /** Where the circuit leads; NONE of a subscriber. */
        final int neighbour;
        /** The number of the circuit, or of the subscriber at its exchange. */
        final int number;
        int state = IDLE;
        Leg joined;
        int timer;
        /** The second timer of RELEASES. */
        int resetTimer;
        boolean blockedHere;
        boolean blockedThere;
        int wanted = NONE;
        int count;
        int length;

        Leg(int exchange, int neighbour, int number) {
            this.exchange = exchange;
            this.neighbour = neighbour;
            this.number = number;
        }

        boolean isSubscriber() {
            return neighbour == NONE;
        }

        boolean isFree() {
            return state == IDLE && !blockedHere && !blockedThere;
        }

        boolean isInCall() {
            return state >= ASKED && state <= SENT_ANSWER;
        }

        boolean isAnswered() {
            return state == ANSWERED || state == SENT_ANSWER;
        }

        boolean controls() {
            boolean isHigher = exchange > neighbour;
            return isHigher == (number % 2 == 0);
        }

        int code() {
            return isSubscriber() ? 10 * exchange + number : 100 + 10 * neighbour + number;
        }

        int joinedCode() {
            return joined == null ? NONE : joined.code();
        }

        /** Answers the leg that it was joined to. */
        Leg part() {
            Leg other = joined;
            if (other != null) {
                other.joined = null;
            }
            joined = null;
            return other;
        }

        /** A circuit's end leaves its call, with what it knew of it but the count. */
        void leaveCall(int newState) {
            state = newState;
            timer = 0;
            resetTimer = 0;
            wanted = NONE;
            length = 0;
        }

        int tellCircuit(int what, Clock clock) {
            switch (what) {
                case 0: return state;
                case 1: return clock.left(timer);
                case 2: return blockedHere ? 1 : 0;
                case 3: return blockedThere ? 1 : 0;
                case 4: return joinedCode();
                case 5: return wanted;
                case 6: return count;
                case 7: return length;
                default: return NONE;
            }
        }
    }

    /** Subscribers and circuits of all exchanges, and the calls that join them. */
    private static final class Switchboard {
        private static final int ASKED_TIME = 20;
        private static final int COMPLETED_TIME = 60;
        private static final int RELEASE_TIME = 6;
        private static final int RESET_TIME = 30;
        private static final int COUNTS = 64;
        private static final int LENGTH_TOO_LONG = 7;
        /** A step posts few messages: at most one for each of the four legs that it may touch. */
        private static final int MOST_POSTED = 16;

        private final Plan plan;
        private final Clock clock;
        /** By exchange and number. */
        private final Leg[] subscribers = new Leg[EXCHANGES * SUBSCRIBERS];
        /** By exchange, neighbour and number; null between those that are no neighbours. */
        private final Leg[] circuits = new Leg[PAIRS * LANES];
        final Queue posted = new Queue(MOST_POSTED);

        Switchboard(Plan plan, Clock clock) {
            this.plan = plan;
            this.clock = clock;
            for (int i = 0; i < subscribers.length; i++) {
                subscribers[i] = new Leg(i / SUBSCRIBERS, NONE, i % SUBSCRIBERS);
            }
        }

        void addCircuits(int a, int b) {
            for (int c = 0; c < LANES; c++) {
                addCircuit(a, b, c);
                addCircuit(b, a, c);
            }
        }

        private void addCircuit(int x, int neighbour, int c) {
            int place = (x * EXCHANGES + neighbour) * LANES + c;
            if (circuits[place] == null) {
                circuits[place] = new Leg(x, neighbour, c);
            }
        }

        Leg subscriberAt(int number) {
            boolean isOne = number >= 0 && number < 10 * EXCHANGES && number % 10 < SUBSCRIBERS;
            return isOne ? subscribers[number / 10 * SUBSCRIBERS + number % 10] : null;
        }

        Leg circuitAt(int x, int neighbour, int c) {
            if (x < 0 || x >= EXCHANGES || neighbour < 0 || neighbour >= EXCHANGES || c < 0 || c >= LANES) {
                return null;
            }
            return circuits[(x * EXCHANGES + neighbour) * LANES + c];
        }

        int circuitPlaces() {
            return circuits.length;
        }

        boolean call(int number, int wanted) {
            Leg caller = subscriberAt(number);
            if (caller == null || subscriberAt(wanted) == null) {
                return false;
            }
            if (caller.state != Leg.IDLE || number == wanted) {
                return false;
            }
            caller.state = Leg.CALLING;
            connect(caller, wanted);
            return true;
        }

        boolean pickUp(int number) {
            Leg called = subscriberAt(number);
            if (called == null || called.state != Leg.RINGING) {
                return false;
            }
            called.state = Leg.TALKING;
            goBack(called.joined, ANSWER);
            return true;
        }

        boolean putDown(int number) {
            Leg leg = subscriberAt(number);
            if (leg == null || leg.state == Leg.IDLE || leg.state == Leg.RINGING) {
                return false;
            }
            leg.state = Leg.IDLE;
            letGo(leg.part());
            return true;
        }

        boolean setBlocked(int x, int neighbour, int c, boolean on) {
            Leg circuit = circuitAt(x, neighbour, c);
            if (circuit == null || circuit.blockedHere == on) {
                return false;
            }
            circuit.blockedHere = on;
            post(circuit, on ? BLOCK : UNBLOCK, circuit.count, 0);
            return true;
        }

        int talksWith(Leg subscriber) {
            if (subscriber.state != Leg.TALKING) {
                return NONE;
            }
            Leg leg = subscriber.joined;
            for (int i = 0; i < circuits.length && leg != null && !leg.isSubscriber(); i++) {
                Leg there = circuitAt(leg.neighbour, leg.exchange, leg.number);
                boolean leads = leg.isAnswered() && there != null && there.isAnswered();
                leg = leads ? there.joined : null;
            }
            boolean talks = leg != null && leg.isSubscriber() && leg.state == Leg.TALKING;
            return talks ? leg.code() : NONE;
        }

        private void post(Leg circuit, int kind, int count, int second) {
            int first = circuit.number + 4 * count;
            posted.add(Message.of(kind, circuit.exchange, circuit.neighbour, circuit.number, first, second));
        }

        private static void join(Leg one, Leg other) {
            one.joined = other;
            other.joined = one;
        }

        private void connect(Leg leg, int number) {
            boolean isHere = number / 10 == leg.exchange;
            Leg other = isHere ? idleSubscriber(number) : idleCircuit(leg, number / 10);
            if (other == null) {
                letGo(leg);
                return;
            }
            join(leg, other);
            if (isHere) {
                other.state = Leg.RINGING;
                goBack(leg, COMPLETE);
            } else {
                ask(other, number, leg.length + 1);
            }
        }

        private Leg idleSubscriber(int number) {
            Leg called = subscriberAt(number);
            return called != null && called.state == Leg.IDLE ? called : null;
        }

        /** A circuit on which a leg may be led on to an exchange; null if there is none. */
        private Leg idleCircuit(Leg leg, int e) {
            if (leg.length + 1 >= LENGTH_TOO_LONG) {
                return null;
            }
            for (int i = 0; i < 2 * LANES; i++) {
                int neighbour = plan.told(leg.exchange, e, i / LANES);
                boolean leadsOn = neighbour != leg.neighbour;
                Leg circuit = leadsOn ? circuitAt(leg.exchange, neighbour, i % LANES) : null;
                if (circuit != null && circuit.isFree()) {
                    return circuit;
                }
            }
            return null;
        }

        private void ask(Leg circuit, int number, int length) {
            circuit.state = Leg.ASKED;
            circuit.timer = clock.after(ASKED_TIME);
            circuit.wanted = number;
            circuit.length = length;
            circuit.count = (circuit.count + 1) % COUNTS;
            post(circuit, INITIAL, circuit.count, number + 64 * length);
        }

        /** COMPLETE or ANSWER goes back to a leg. */
        private void goBack(Leg leg, int kind) {
            if (leg == null) {
                return;
            }
            boolean completes = kind == COMPLETE;
            if (leg.isSubscriber()) {
                if (leg.state == (completes ? Leg.CALLING : Leg.HEARING)) {
                    leg.state = completes ? Leg.HEARING : Leg.TALKING;
                }
            } else if (leg.state == (completes ? Leg.WAS_ASKED : Leg.SENT_COMPLETE)) {
                leg.state = completes ? Leg.SENT_COMPLETE : Leg.SENT_ANSWER;
                post(leg, kind, leg.count, 0);
            }
        }

        private void letGo(Leg leg) {
            if (leg == null) {
                return;
            }
            leg.part();
            if (!leg.isSubscriber()) {
                if (leg.isInCall()) {
                    leg.leaveCall(Leg.RELEASES);
                    leg.timer = clock.after(RELEASE_TIME);
                    leg.resetTimer = clock.after(RESET_TIME);
                    post(leg, RELEASE, leg.count, 0);
                }
            } else if (leg.state == Leg.RINGING) {
                leg.state = Leg.IDLE;
            } else if (leg.state != Leg.IDLE) {
                leg.state = Leg.ENDED;
            }
        }

        /** A circuit's end gets a message. */
        void get(long message) {
            int c = Message.first(message) % LANES;
            Leg circuit = circuitAt(Message.to(message), Message.from(message), c);
            if (circuit == null) {
                return;
            }
            int count = Message.first(message) / LANES;
            int kind = Message.kind(message);
            switch (kind) {
                case INITIAL:
                    getInitial(circuit, count, Message.second(message));
                    break;
                case COMPLETE:
                case ANSWER:
                    getProgress(circuit, count, kind);
                    break;
                case RELEASE:
                case RESET:
                    getRelease(circuit, count, kind);
                    break;
                case RELEASED:
                    if (count == circuit.count && circuit.state >= Leg.RELEASES) {
                        circuit.leaveCall(Leg.IDLE);
                    }
                    break;
                case BLOCK:
                case UNBLOCK:
                    circuit.blockedThere = kind == BLOCK;
                    break;
                default:
                    break;
            }
        }

        private void getInitial(Leg circuit, int count, int second) {
            boolean yields = circuit.state == Leg.ASKED && !circuit.controls();
            if (circuit.state != Leg.IDLE && !yields) {
                return;
            }
            int wantedBefore = circuit.wanted;
            Leg leg = circuit.part();
            circuit.leaveCall(Leg.WAS_ASKED);
            circuit.wanted = second % 64;
            circuit.length = second / 64;
            circuit.count = count;
            connect(circuit, circuit.wanted);
            if (leg != null) {
                connect(leg, wantedBefore);
            }
        }

        private void getProgress(Leg circuit, int count, int kind) {
            if (circuit.state == Leg.IDLE) {
                circuit.count = count;
                reset(circuit);
                return;
            }
            if (count != circuit.count) {
                return;
            }
            if (kind == COMPLETE && circuit.state == Leg.ASKED) {
                circuit.state = Leg.COMPLETED;
                circuit.timer = clock.after(COMPLETED_TIME);
                goBack(circuit.joined, COMPLETE);
            } else if (kind == ANSWER && circuit.state == Leg.COMPLETED) {
                circuit.state = Leg.ANSWERED;
                circuit.timer = 0;
                goBack(circuit.joined, ANSWER);
            }
        }

        private void reset(Leg circuit) {
            circuit.leaveCall(Leg.RESETS);
            circuit.timer = clock.after(RESET_TIME);
            post(circuit, RESET, circuit.count, 0);
        }

        private void getRelease(Leg circuit, int count, int kind) {
            post(circuit, RELEASED, count, 0);
            if (count != circuit.count) {
                return;
            }
            if (circuit.isInCall()) {
                circuit.leaveCall(Leg.IDLE);
                letGo(circuit.part());
            } else if (kind == RESET) {
                circuit.leaveCall(Leg.IDLE);
            }
        }

        /** Of the circuit's end at that place, if there is one; true when something was out. */
        boolean runTimers(int place) {
            Leg circuit = place < 0 || place >= circuits.length ? null : circuits[place];
            if (circuit == null) {
                return false;
            }
            boolean isOut = clock.isOut(circuit.timer);
            boolean isResetOut = clock.isOut(circuit.resetTimer);
            if (isOut) {
                timeOut(circuit);
            }
            if (isResetOut) {
                reset(circuit);
            }
            return isOut || isResetOut;
        }

        private void timeOut(Leg circuit) {
            if (circuit.state == Leg.RELEASES) {
                circuit.timer = clock.after(RELEASE_TIME);
                post(circuit, RELEASE, circuit.count, 0);
            } else if (circuit.state == Leg.RESETS) {
                reset(circuit);
            } else {
                Leg other = circuit.part();
                letGo(circuit);
                letGo(other);
            }
        }
    }
}
