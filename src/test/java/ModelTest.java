import java.util.ArrayList;
import java.util.List;
import java.util.Random;

/**
 * Plays random runs of calls on SignalNetwork and on a slow model of the document, written in
 * another way (objects, lists, counted-down timers), and compares every answer.
 */
public final class ModelTest {
    private static final int RUNS = 120;
    private static final int CALLS = 512;

    private static int wrong = 0;

    public static void main(String[] args) {
        int runs = args.length > 0 ? Integer.parseInt(args[0]) : RUNS;
        int start = args.length > 1 ? Integer.parseInt(args[1]) : 1;
        Tally tally = new Tally();
        for (int seed = start; seed < start + runs && wrong < 5; seed++) {
            new Play(seed, tally).run();
        }
        if (args.length > 0) {
            System.out.println(tally);
        }
        tally.require();
        System.out.println(wrong == 0 ? "model: all answers are as due" : "model: " + wrong + " runs differ");
        if (wrong != 0) {
            System.exit(1);
        }
    }

    /** How often the runs came to what is rare: a test that never comes there tests nothing. */
    private static final class Tally {
        final int[] kinds = new int[15];
        final int[] circuitStates = new int[9];
        final int[] subscriberStates = new int[6];
        final int[] flowsHeld = new int[3];
        int lostAtHops;
        int timedOutChangeovers;
        int endedWithNumber;
        int repeats;
        int backDropped;
        int backAgain;
        int tooLong;
        int yields;
        int talks;
        int lostWhenFull;
        int staleOver;
        int fifthRounds;
        int waitingOut;

        void require() {
            boolean all = lostAtHops > 0 && timedOutChangeovers > 0 && endedWithNumber > 0 && repeats > 0
                && backDropped > 0 && backAgain > 0 && tooLong > 0 && yields > 0 && talks > 0
                && lostWhenFull > 0 && staleOver > 0 && fifthRounds > 0 && waitingOut > 0;
            for (int k = 1; k < kinds.length; k++) {
                all &= kinds[k] > 0;
            }
            for (int k : circuitStates) {
                all &= k > 0;
            }
            if (!all) {
                wrong++;
                System.out.println("the runs did not come to all that is rare: " + this);
            }
        }

        @Override public String toString() {
            return "kinds " + java.util.Arrays.toString(kinds) + " circuits " + java.util.Arrays.toString(circuitStates)
                + " subscribers " + java.util.Arrays.toString(subscriberStates)
                + " held " + java.util.Arrays.toString(flowsHeld)
                + " hops " + lostAtHops + " changeovers out " + timedOutChangeovers + " with number " + endedWithNumber
                + " repeats " + repeats + " backs dropped " + backDropped + " backs again " + backAgain
                + " too long " + tooLong + " yields " + yields + " talks " + talks + " full " + lostWhenFull
                + " stale " + staleOver + " fifth rounds " + fifthRounds + " waiting out " + waitingOut;
        }
    }

    // ---------------------------------------------------------------- the random runs

    private static final class Play {
        final int seed;
        final Random random;
        final Tally tally;
        final SignalNetwork real = new SignalNetwork();
        final Model model;
        final StringBuilder calls = new StringBuilder();
        boolean differs = false;

        Play(int seed, Tally tally) {
            this.seed = seed;
            this.random = new Random(seed);
            this.tally = tally;
            this.model = new Model(tally);
        }

        int r(int n) {
            return random.nextInt(n);
        }

        void due(String call, int got, int want) {
            calls.append(call).append(" = ").append(want).append('\n');
            if (got != want && !differs) {
                differs = true;
                wrong++;
                System.out.println("seed " + seed + ":\n" + calls + "  answered " + got);
            }
        }

        void due(String call, boolean got, boolean want) {
            due(call, got ? 1 : 0, want ? 1 : 0);
        }

        void run() {
            setUp();
            int style = r(6);
            for (int i = 0; i < CALLS && !differs; i++) {
                step(style);
                if (i % 4 == 0) {
                    compareAll();
                }
            }
        }

        void setUp() {
            int shape = r(7);
            if (shape == 0) {
                link(0, 1); link(0, 1); link(1, 0); link(1, 2);
            } else if (shape == 1) {
                link(0, 1); link(1, 2); link(2, 0); link(0, 1); link(1, 2);
            } else if (shape == 2) {
                for (int i = 0; i < 6; i++) link(i, (i + 1) % 6);
                link(0, 1); link(2, 3);
            } else if (shape == 3) {
                for (int i = 0; i < 10; i++) link(r(3), r(3));
            } else if (shape == 4) {
                for (int i = 0; i < 14; i++) link(r(6), r(6));
            } else if (shape == 5) {
                link(4, 5); link(4, 5); link(5, 4); link(4, 5);
            } else {
                link(0, 1);
            }
            if (r(4) > 0) {
                shortestRoutes();
            }
            for (int i = r(12); i > 0; i--) anyRoute();
            for (int l = 0; l < model.links.size(); l++) {
                if (r(8) > 0) activate(l, true);
            }
            tick(r(3) * 15);
        }

        void shortestRoutes() {
            for (int x = 0; x < 6; x++) {
                for (int d = 0; d < 6; d++) {
                    if (x == d) continue;
                    int first = -1;
                    int second = -1;
                    for (int nb = 0; nb < 6; nb++) {
                        if (nb == x || !model.neighbours(x, nb)) continue;
                        if (nb == d) { second = first; first = nb; }
                        else if (first == -1) first = nb;
                        else if (second == -1 || r(2) == 0) second = nb;
                    }
                    route(x, d, first, second);
                }
            }
        }

        void link(int a, int b) { due("link(" + a + ", " + b + ")", real.link(a, b), model.link(a, b)); }

        void route(int x, int d, int f, int s) {
            due("route(" + x + ", " + d + ", " + f + ", " + s + ")", real.route(x, d, f, s), model.route(x, d, f, s));
        }

        void activate(int l, boolean on) {
            due("activate(" + l + ", " + on + ")", real.activate(l, on), model.activate(l, on));
        }

        void cut(int l, boolean on) { due("cut(" + l + ", " + on + ")", real.cut(l, on), model.cut(l, on)); }

        void damage(int l, int side, int n) {
            due("damage(" + l + ", " + side + ", " + n + ")", real.damage(l, side, n), model.damage(l, side, n));
        }

        void tick(int n) { due("tick(" + n + ")", real.tick(n), model.tick(n)); }

        void anyRoute() {
            route(r(6), r(6), r(7) - 1, r(7) - 1);
        }

        int anyNumber() {
            return r(20) == 0 ? r(80) - 10 : 10 * r(6) + r(4);
        }

        void dial(int s, int n) { due("dial(" + s + ", " + n + ")", real.dial(s, n), model.dial(s, n)); }

        void step(int style) {
            int links = Math.max(1, model.links.size());
            int what = r(100);
            if (what < 40) {
                int far = r(5);
                tick(far == 0 ? r(80) : far == 1 ? r(20) : 1 + r(3));
            } else if (what < 60) {
                int s = anyNumber();
                if (style == 1) s = r(2) * 10 + r(4);
                int n = style == 1 ? 10 - s / 10 * 10 + r(4) : anyNumber();
                dial(s, n);
                if (style == 1 && r(2) == 0) dial(10 - s / 10 * 10 + r(4), s / 10 * 10 + r(4));
            } else if (what < 68) {
                for (int i = 0; i < 60; i++) {
                    int s = 10 * r(6) + r(4);
                    if (model.subscriber(s, 0) == 3 || i == 59) {
                        due("answer(" + s + ")", real.answer(s), model.answer(s));
                        break;
                    }
                }
            } else if (what < 80) {
                int s = anyNumber();
                due("hang(" + s + ")", real.hang(s), model.hang(s));
            } else if (what < 84 || style == 3 && what < 90) {
                int x = r(7);
                int nb = r(6);
                int c = r(5);
                boolean on = r(3) != 0;
                for (int i = style == 3 ? 1 + r(90) : 1; i > 0; i--, on = !on) {
                    due("block(" + x + ", " + nb + ", " + c + ", " + on + ")",
                        real.block(x, nb, c, on), model.block(x, nb, c, on));
                }
            } else if (what < 88) {
                if (style != 2) damage(r(links + 1), r(5) == 0 ? r(4) - 1 : r(2), r(30) == 0 ? r(110) - 5 : r(7));
            } else if (what < 92) {
                if (style != 2) cut(r(links), r(3) == 0);
            } else if (what < 95) {
                activate(r(links + 1), r(3) != 0);
            } else if (what < 97) {
                if (style >= 4) anyRoute(); else tick(1);
            } else if (what < 98) {
                if (style == 5) link(r(7) - 1, r(6)); else tick(2);
            } else if (r(2) == 0) {
                damage(r(links), r(2), 20 + r(20));
            } else {
                starve(r(links), r(2));
            }
        }

        /** Damages what is repeated so seldom that the sender's patience ends, not the credit. */
        void starve(int l, int sender) {
            if (model.end(l, sender, 0) != 5) return;
            int x = model.links.get(l).sides[sender].at;
            int nb = model.links.get(l).sides[sender].to;
            int c = r(4);
            boolean on = model.circuit(x, nb, c, 2) == 0;
            due("block(" + x + ", " + nb + ", " + c + ", " + on + ")",
                real.block(x, nb, c, on), model.block(x, nb, c, on));
            for (int i = 0; i < 26; i++) {
                if (model.octet(l, sender, 2) == 8) damage(l, 1 - sender, 1);
                if (i == 2) damage(l, sender, 5);
                tick(1);
            }
        }

        void compareAll() {
            for (int l = -1; l <= model.links.size(); l++) {
                for (int side = -1; side <= 2; side++) compareEnd(l, side);
            }
            for (int x = -1; x <= 6; x++) {
                for (int y = -1; y <= 6; y++) comparePair(x, y);
            }
            for (int n = -1; n <= 61; n++) {
                for (int what = -1; what <= 3; what++) {
                    same("subscriber(" + n + ", " + what + ")", real.subscriber(n, what), model.subscriber(n, what));
                }
            }
            for (int what = -1; what <= 4; what++) {
                same("counted(" + what + ")", real.counted(what), model.counted(what));
            }
        }

        void same(String call, int got, int want) {
            if (got != want && !differs) {
                due(call, got, want);
            }
        }

        void compareEnd(int l, int side) {
            String end = l + ", " + side;
            for (int what = -1; what <= 16; what++) {
                same("end(" + end + ", " + what + ")", real.end(l, side, what), model.end(l, side, what));
            }
            for (int i = -1; i <= 13; i++) {
                same("octet(" + end + ", " + i + ")", real.octet(l, side, i), model.octet(l, side, i));
            }
            same("bits(" + end + ")", real.bits(l, side), model.bits(l, side));
        }

        void comparePair(int x, int y) {
            for (int i = -1; i <= 4; i++) {
                for (int what = -1; what <= 8; what++) {
                    String of = "(" + x + ", " + y + ", " + i + ", " + what + ")";
                    same("flow" + of, real.flow(x, y, i, what), model.flow(x, y, i, what));
                    same("circuit" + of, real.circuit(x, y, i, what), model.circuit(x, y, i, what));
                }
            }
            for (int what = -1; what <= 31; what++) {
                same("next(" + x + ", " + y + ", " + what + ")", real.next(x, y, what), model.next(x, y, what));
            }
        }
    }

    // ---------------------------------------------------------------- the model

    private static final class Timer {
        int left = 0;
        boolean due = false;

        void set(int n) { left = n; due = false; }

        void stop() { left = 0; due = false; }

        boolean out() {
            boolean was = due;
            due = false;
            return was;
        }
    }

    private static final class Msg {
        int kind, from, to, flow, first, second, hops;

        Msg(int kind, int from, int to, int flow, int first, int second) {
            this.kind = kind;
            this.from = from;
            this.to = to;
            this.flow = flow;
            this.first = first;
            this.second = second;
        }

        Msg copy() {
            Msg m = new Msg(kind, from, to, flow, first, second);
            m.hops = hops;
            return m;
        }
    }

    private static final class Signal {
        String type = "STOP";
        boolean urgent;
        int life, number, forward, taken, backward;
        Msg msg;
    }

    private static final class Numbered {
        final int number;
        final Msg msg;
        boolean toRepeat;

        Numbered(int number, Msg msg) {
            this.number = number;
            this.msg = msg;
        }
    }

    private static final class Side {
        Line line;
        int at, to;
        int state, life, peer, round, errors, proving, credit, units, damaged;
        boolean urgent;
        int sent = 127, taken = 127, forward = 1, backward = 1;
        List<Numbered> unacked = new ArrayList<>();
        List<Msg> waits = new ArrayList<>();
        boolean repeats;
        final Timer timer, waiting, over;
        boolean overing;
        Signal signal;

        Side(Timer timer, Timer waiting, Timer over) {
            this.timer = timer;
            this.waiting = waiting;
            this.over = over;
        }
    }

    private static final class Line {
        int number;
        Side[] sides = new Side[2];
        boolean active, cut;

        Side at(int x) { return sides[0].at == x ? sides[0] : sides[1].at == x ? sides[1] : null; }
    }

    private static final class Stream {
        int at, to, s;
        Line current;
        int held;
        Line heldFor;
        int began;
        List<Msg> kept = new ArrayList<>();
        Timer back;
    }

    private static class Party {
        int at;
        int state;
        Party other;
    }

    private static final class Phone extends Party {
        int number;
    }

    private static final class Trunk extends Party {
        int to, c;
        Timer timer, second;
        boolean here, there;
        int number = -1, count, length;
    }

    private static final class Model {
        final Tally tally;
        final List<Line> links = new ArrayList<>();
        final List<Timer> timers = new ArrayList<>();
        final int[][][] routes = new int[6][6][];
        final boolean[][][] prohibited = new boolean[6][6][6];
        final Boolean[][][] toldClosed = new Boolean[6][6][6];
        final Stream[][][] streams = new Stream[6][6][4];
        final Trunk[][][] trunks = new Trunk[6][6][4];
        final Phone[] phones = new Phone[54];
        int ticks, lost, done, kind;

        Model(Tally tally) {
            this.tally = tally;
            for (int n = 0; n < 54; n++) {
                if (n % 10 < 4) {
                    phones[n] = new Phone();
                    phones[n].at = n / 10;
                    phones[n].number = n;
                }
            }
        }

        Timer timer() {
            Timer t = new Timer();
            timers.add(t);
            return t;
        }

        boolean exchange(int x) { return 0 <= x && x <= 5; }

        List<Line> set(int x, int y) {
            List<Line> set = new ArrayList<>();
            for (Line l : links) {
                if (l.at(x) != null && l.at(y) != null && x != y) set.add(l);
            }
            return set;
        }

        boolean neighbours(int x, int y) { return exchange(x) && exchange(y) && !set(x, y).isEmpty(); }

        // ---- calls

        int link(int a, int b) {
            if (!exchange(a) || !exchange(b) || a == b || links.size() == 10 || set(a, b).size() == 4) return -1;
            Line l = new Line();
            l.number = links.size();
            for (int side = 0; side < 2; side++) {
                Side e = new Side(timer(), timer(), timer());
                e.line = l;
                e.at = side == 0 ? Math.min(a, b) : Math.max(a, b);
                e.to = a + b - e.at;
                l.sides[side] = e;
            }
            if (set(a, b).isEmpty()) {
                between(a, b);
                between(b, a);
            }
            links.add(l);
            return l.number;
        }

        void between(int x, int y) {
            for (int i = 0; i < 4; i++) {
                Stream f = new Stream();
                f.at = x;
                f.to = y;
                f.s = i;
                f.back = timer();
                streams[x][y][i] = f;
                Trunk t = new Trunk();
                t.at = x;
                t.to = y;
                t.c = i;
                t.timer = timer();
                t.second = timer();
                trunks[x][y][i] = t;
            }
        }

        boolean route(int x, int d, int first, int second) {
            if (!exchange(x) || !exchange(d) || x == d) return false;
            for (int n : new int[] {first, second}) {
                if (n != -1 && (!exchange(n) || n == x)) return false;
            }
            if (first != -1 && first == second) return false;
            routes[x][d] = new int[] {first, second};
            look(x);
            return true;
        }

        boolean activate(int n, boolean on) {
            if (n < 0 || n >= links.size() || links.get(n).active == on) return false;
            Line l = links.get(n);
            l.active = on;
            for (Side e : l.sides) {
                if (on && e.state == 0 && e.timer.left == 0) start(e);
                if (!on && e.state != 0) fail(e, false);
            }
            return true;
        }

        boolean cut(int n, boolean on) {
            if (n < 0 || n >= links.size()) return false;
            links.get(n).cut = on;
            return true;
        }

        boolean damage(int n, int side, int many) {
            if (n < 0 || n >= links.size() || side < 0 || side > 1 || many < 0 || many > 100) return false;
            links.get(n).sides[side].damaged = many;
            return true;
        }

        int tick(int n) {
            if (n < 0 || n > 200) return -1;
            for (int i = 0; i < n; i++) {
                ticks++;
                for (Line l : links) {
                    arrive(l.sides[0], l.sides[1]);
                    arrive(l.sides[1], l.sides[0]);
                }
                for (Timer t : timers) {
                    if (t.left > 0 && --t.left == 0) t.due = true;
                }
                for (Line l : links) {
                    for (Side e : l.sides) {
                        if (e.timer.out()) stateOut(e);
                        if (e.waiting.out()) {
                            tally.waitingOut++;
                            fail(e, false);
                        }
                    }
                }
                for (int x = 0; x < 6; x++) exchangeTimers(x);
                for (int x = 0; x < 6; x++) {
                    for (int y = 0; y < 6; y++) {
                        for (Trunk t : trunks[x][y]) if (t != null) trunkTimers(t);
                    }
                }
                for (Line l : links) for (Side e : l.sides) e.signal = send(e);
                for (Stream[][] a : streams) for (Stream[] b : a) for (Stream f : b) if (f != null) tally.flowsHeld[f.held]++;
            }
            return ticks;
        }

        void exchangeTimers(int x) {
            for (Line l : links) {
                if (l.at(x) != null && l.at(x).over.out()) {
                    tally.timedOutChangeovers++;
                    endChangeover(l.at(x), null);
                }
            }
            for (int y = 0; y < 6; y++) {
                for (Stream f : streams[x][y]) {
                    if (f != null && f.back.out()) {
                        tally.backAgain++;
                        waitAt(f.current.at(x), new Msg(3, x, y, f.s, f.s, f.began % 256));
                        f.back.set(20);
                    }
                }
            }
        }

        // ---- links

        void start(Side e) {
            e.state = 1;
            e.timer.set(30);
            e.urgent = true;
            for (Line l : set(e.at, e.to)) {
                if (l != e.line && l.at(e.at).state == 5) e.urgent = false;
            }
            e.life = e.life == 15 ? 0 : e.life + 1;
        }

        void fail(Side e, boolean ofOver) {
            boolean served = e.state == 5;
            e.state = 0;
            e.timer.set(12);
            e.waiting.stop();
            e.repeats = false;
            if (served) {
                e.overing = true;
                e.over.set(10);
                for (Stream f : streams[e.at][e.to]) {
                    if (f.current == e.line) {
                        f.current = null;
                        f.held = 1;
                        f.heldFor = e.line;
                        f.back.stop();
                    }
                }
                if (!ofOver) otherWay(e.at, e.to, new Msg(1, e.at, e.to, 0, e.line.number + 16 * e.life, e.taken));
            }
            look(e.at);
        }

        void stateOut(Side e) {
            if (e.state == 0) {
                if (e.line.active) start(e);
            } else if (e.state == 3) {
                e.state = 4;
                e.timer.set(15);
                e.sent = 127;
                e.taken = 127;
                e.forward = 1;
                e.backward = 1;
                e.credit = 0;
                e.units = 0;
                e.repeats = false;
                if (!e.unacked.isEmpty() || !e.waits.isEmpty()) throw new IllegalStateException("messages left");
            } else {
                fail(e, false);
            }
        }

        void arrive(Side e, Side from) {
            Signal u = from.signal == null ? new Signal() : from.signal;
            String type = u.type;
            if (e.line.cut) type = "BAD";
            if (e.damaged > 0) {
                type = "BAD";
                e.damaged--;
            }
            if (type.equals("PROVE") && e.state != 0) e.peer = u.life;
            if (e.state == 1) {
                if (type.equals("SEEK") || type.equals("PROVE")) aligned(e);
            } else if (e.state == 2) {
                if (type.equals("PROVE")) {
                    e.state = 3;
                    e.round = 1;
                    e.proving = e.urgent || u.urgent ? 3 : 8;
                    e.timer.set(e.proving);
                    e.errors = 0;
                } else if (type.equals("STOP")) {
                    fail(e, false);
                }
            } else if (e.state == 3) {
                proving(e, type, u);
            } else if (e.state >= 4) {
                served(e, type, u);
            }
        }

        void aligned(Side e) {
            e.state = 2;
            e.timer.set(15);
        }

        void proving(Side e, String type, Signal u) {
            if (type.equals("BAD")) {
                e.errors++;
                if (e.errors == (e.proving == 3 ? 1 : 2)) {
                    e.round++;
                    e.errors = 0;
                    if (e.round == 5) {
                        tally.fifthRounds++;
                        fail(e, false);
                    } else {
                        e.timer.set(e.proving);
                    }
                }
            } else if (type.equals("SEEK")) {
                aligned(e);
            } else if (type.equals("PROVE") && u.urgent && e.proving == 8) {
                e.proving = 3;
                e.timer.set(3);
                e.errors = 0;
            } else if (type.equals("STOP")) {
                fail(e, false);
            }
        }

        void served(Side e, String type, Signal u) {
            e.units++;
            if (e.units % 16 == 0 && e.credit > 0) e.credit--;
            if (type.equals("BAD")) {
                e.credit++;
                if (e.credit == 6) fail(e, false);
                return;
            }
            boolean numbered = type.equals("FILL") || type.equals("MESSAGE");
            if (!numbered) {
                if (e.state == 5 || !type.equals("PROVE")) fail(e, false);
                return;
            }
            if (e.state == 4) {
                e.state = 5;
                e.timer.stop();
                up(e);
            }
            treat(e, u);
        }

        void treat(Side e, Signal u) {
            int place = -1;
            for (int i = 0; i < e.unacked.size(); i++) {
                if (e.unacked.get(i).number == u.taken) place = i;
            }
            if (place >= 0) {
                for (int i = 0; i <= place; i++) e.unacked.remove(0);
                if (e.unacked.isEmpty()) {
                    e.repeats = false;
                    e.waiting.stop();
                } else {
                    e.waiting.set(20);
                }
            }
            if (u.backward != e.forward) {
                e.forward = u.backward;
                e.repeats = !e.unacked.isEmpty();
                for (Numbered n : e.unacked) n.toRepeat = true;
            }
            if (u.forward != e.backward) return;
            if (u.type.equals("MESSAGE") && u.number == (e.taken == 127 ? 0 : e.taken + 1)) {
                e.taken = u.number;
                get(e.at, u.msg.copy());
            } else if (u.number != e.taken) {
                e.backward = e.backward == 1 ? 0 : 1;
            }
        }

        Signal send(Side e) {
            Signal u = new Signal();
            u.type = e.state == 0 ? "STOP" : e.state == 1 ? "SEEK" : e.state <= 3 ? "PROVE" : "FILL";
            u.urgent = e.urgent;
            u.life = e.life;
            u.forward = e.forward;
            u.backward = e.backward;
            u.taken = e.taken;
            u.number = e.sent;
            if (e.state != 5) return u;
            if (e.repeats) {
                tally.repeats++;
                u.type = "MESSAGE";
                Numbered next = null;
                for (Numbered n : e.unacked) {
                    if (n.toRepeat && next == null) next = n;
                }
                next.toRepeat = false;
                u.number = next.number;
                u.msg = next.msg;
                e.repeats = next != e.unacked.get(e.unacked.size() - 1);
            } else if (!e.waits.isEmpty() && e.unacked.size() < 32) {
                if (e.unacked.isEmpty()) e.waiting.set(20);
                u.type = "MESSAGE";
                e.sent = e.sent == 127 ? 0 : e.sent + 1;
                u.number = e.sent;
                u.msg = e.waits.remove(0);
                e.unacked.add(new Numbered(e.sent, u.msg));
            }
            return u;
        }

        // ---- messages

        Line best(int x, int y, int s) {
            List<Line> set = set(x, y);
            for (int i = 0; i < set.size(); i++) {
                Line l = set.get((s % set.size() + i) % set.size());
                if (l.at(x).state == 5) return l;
            }
            return null;
        }

        boolean open(Stream f) { return f.current != null || f.held != 0; }

        void waitAt(Side e, Msg m) {
            if (e.waits.size() == 64) {
                tally.lostWhenFull++;
                lost++;
            } else {
                e.waits.add(m);
            }
        }

        void give(Stream f, Msg m) {
            if (f.held == 0) {
                waitAt(f.current.at(f.at), m);
            } else if (f.kept.size() == 64) {
                tally.lostWhenFull++;
                lost++;
            } else {
                f.kept.add(m);
            }
        }

        int way(int x, int d, int s, int not) {
            if (routes[x][d] == null) return -1;
            for (int n : routes[x][d]) {
                if (n != -1 && n != not && neighbours(x, n) && !prohibited[x][n][d] && open(streams[x][n][s])) return n;
            }
            return -1;
        }

        void routeOn(int x, Msg m, int not) {
            int n = way(x, m.to, m.flow, not);
            if (n == -1) lost++;
            else give(streams[x][n][m.flow], m);
        }

        void otherWay(int x, int y, Msg m) {
            for (Line l : set(x, y)) {
                if (l.at(x).state == 5) {
                    waitAt(l.at(x), m);
                    return;
                }
            }
            routeOn(x, m, y);
        }

        void get(int x, Msg m) {
            if (m.to != x) {
                m.hops++;
                if (m.hops == 8) {
                    tally.lostAtHops++;
                    lost++;
                } else {
                    routeOn(x, m, -1);
                }
                return;
            }
            done++;
            kind = m.kind;
            tally.kinds[kind]++;
            if (kind <= 2) over(x, m);
            else if (kind == 3) otherWay(x, m.from, new Msg(4, x, m.from, m.flow, m.first, m.second));
            else if (kind == 4) backed(streams[x][m.from][m.first], m);
            else if (kind <= 6) {
                prohibited[x][m.from][m.first] = kind == 5;
                look(x);
            } else {
                trunkGets(trunks[x][m.from][m.first % 4], m);
            }
        }

        void up(Side e) {
            boolean wasOpen = false;
            for (Stream f : streams[e.at][e.to]) wasOpen |= open(f);
            for (Stream f : streams[e.at][e.to]) {
                if (f.held != 0) continue;
                Line best = best(e.at, e.to, f.s);
                if (f.current == null) {
                    f.current = best;
                } else if (best != f.current) {
                    f.began++;
                    give(f, new Msg(3, f.at, f.to, f.s, f.s, f.began % 256));
                    f.held = 2;
                    f.back.set(20);
                }
            }
            if (!wasOpen) {
                for (int d = 0; d < 6; d++) toldClosed[e.at][e.to][d] = null;
            }
            look(e.at);
        }

        void over(int x, Msg m) {
            Line l = links.get(m.first % 16);
            Side e = l.at(x);
            if (m.first / 16 != e.peer) {
                tally.staleOver++;
                return;
            }
            if (m.kind == 1) {
                if (e.state == 5) fail(e, true);
                otherWay(x, m.from, new Msg(2, x, m.from, 0, l.number + 16 * e.life, e.taken));
            }
            endChangeover(e, m.second);
        }

        void endChangeover(Side e, Integer number) {
            if (!e.overing) return;
            e.overing = false;
            e.over.stop();
            if (number == null) {
                lost += e.unacked.size();
                e.unacked.clear();
            } else {
                tally.endedWithNumber++;
                int upTo = 0;
                for (int i = 0; i < e.unacked.size(); i++) {
                    if (e.unacked.get(i).number == number) upTo = i + 1;
                }
                e.unacked = new ArrayList<>(e.unacked.subList(upTo, e.unacked.size()));
            }
            List<Msg> all = new ArrayList<>();
            for (Numbered n : e.unacked) all.add(n.msg);
            all.addAll(e.waits);
            e.unacked.clear();
            e.waits.clear();
            for (Stream f : streams[e.at][e.to]) {
                if (f.heldFor == e.line) {
                    all.addAll(f.kept);
                    f.kept.clear();
                    f.held = 0;
                    f.heldFor = null;
                    f.current = best(e.at, e.to, f.s);
                }
            }
            for (Msg m : all) {
                if (m.kind == 3 || m.kind == 4) {
                    tally.backDropped++;
                } else if (open(streams[e.at][e.to][m.flow])) {
                    give(streams[e.at][e.to][m.flow], m);
                } else if (m.kind >= 7) {
                    routeOn(e.at, m, -1);
                } else {
                    lost++;
                }
            }
            look(e.at);
        }

        void backed(Stream f, Msg m) {
            if (f.held != 2 || f.began % 256 != m.second) return;
            f.held = 0;
            f.back.stop();
            f.current = best(f.at, f.to, f.s);
            List<Msg> kept = f.kept;
            f.kept = new ArrayList<>();
            for (Msg k : kept) give(f, k);
        }

        void look(int x) {
            for (int d = 0; d < 6; d++) {
                for (int y = 0; y < 6; y++) {
                    if (d == x || y == d || !neighbours(x, y) || !open(streams[x][y][0])) continue;
                    int next = way(x, d, 0, -1);
                    boolean closed = next == -1 || next == y;
                    if (toldClosed[x][y][d] == null || toldClosed[x][y][d] != closed) {
                        give(streams[x][y][0], new Msg(closed ? 5 : 6, x, y, 0, d, 0));
                        toldClosed[x][y][d] = closed;
                    }
                }
            }
        }

        // ---- calls

        void post(Trunk t, int kind, int count, int second) {
            routeOn(t.at, new Msg(kind, t.at, t.to, t.c, t.c + 4 * count, second), -1);
        }

        void join(Party a, Party b) {
            a.other = b;
            b.other = a;
        }

        void part(Party a) {
            if (a.other != null) a.other.other = null;
            a.other = null;
        }

        void connect(Party leg, int number) {
            if (number / 10 == leg.at) {
                Phone p = phones[number];
                if (p.state != 0) {
                    letGo(leg);
                    return;
                }
                p.state = 3;
                join(leg, p);
                back(leg, 8);
                return;
            }
            int length = leg instanceof Phone ? 1 : ((Trunk) leg).length + 1;
            Trunk free = null;
            if (length == 7) tally.tooLong++;
            if (length < 7 && routes[leg.at][number / 10] != null) {
                for (int n : routes[leg.at][number / 10]) {
                    if (n == -1 || !neighbours(leg.at, n)) continue;
                    if (leg instanceof Trunk && ((Trunk) leg).to == n) continue;
                    for (Trunk t : trunks[leg.at][n]) {
                        if (free == null && t.state == 0 && !t.here && !t.there) free = t;
                    }
                }
            }
            if (free == null) {
                letGo(leg);
                return;
            }
            join(leg, free);
            free.state = 1;
            free.timer.set(20);
            free.number = number;
            free.length = length;
            free.count = free.count == 63 ? 0 : free.count + 1;
            post(free, 7, free.count, number + 64 * length);
        }

        void back(Party leg, int kind) {
            int from = leg instanceof Phone ? kind - 7 : kind - 4;
            if (leg.state != from) return;
            if (leg instanceof Phone) {
                leg.state = kind == 8 ? 2 : 4;
            } else {
                leg.state = from + 1;
                post((Trunk) leg, kind, ((Trunk) leg).count, 0);
            }
        }

        void letGo(Party leg) {
            if (leg == null) return;
            part(leg);
            if (leg instanceof Phone) {
                if (leg.state == 3) leg.state = 0;
                else if (leg.state != 0) leg.state = 5;
                return;
            }
            Trunk t = (Trunk) leg;
            if (t.state < 1 || t.state > 6) return;
            t.state = 7;
            t.number = -1;
            t.length = 0;
            t.timer.set(6);
            t.second.set(30);
            post(t, 10, t.count, 0);
        }

        void idle(Trunk t) {
            Party other = t.other;
            boolean inCall = t.state >= 1 && t.state <= 6;
            part(t);
            t.state = 0;
            t.number = -1;
            t.length = 0;
            t.timer.stop();
            t.second.stop();
            if (inCall) letGo(other);
        }

        void reset(Trunk t) {
            t.state = 8;
            t.number = -1;
            t.length = 0;
            t.second.stop();
            t.timer.set(30);
            post(t, 12, t.count, 0);
        }

        void trunkGets(Trunk t, Msg m) {
            int count = m.first / 4;
            boolean own = count == t.count;
            if (m.kind == 7) {
                boolean controls = t.c == 0 || t.c == 2 ? t.at > t.to : t.at < t.to;
                if (t.state != 0 && (t.state != 1 || controls)) return;
                Party leg = t.other;
                int wanted = t.number;
                if (leg != null) tally.yields++;
                part(t);
                t.state = 4;
                t.timer.stop();
                t.count = count;
                t.number = m.second % 64;
                t.length = m.second / 64;
                connect(t, t.number);
                if (leg != null) connect(leg, wanted);
            } else if (m.kind == 8 || m.kind == 9) {
                if (t.state == 0) {
                    t.count = count;
                    reset(t);
                } else if (own && t.state == m.kind - 7) {
                    t.state++;
                    if (m.kind == 8) t.timer.set(60);
                    else t.timer.stop();
                    back(t.other, m.kind);
                }
            } else if (m.kind == 10) {
                post(t, 11, count, 0);
                if (own && t.state >= 1 && t.state <= 6) idle(t);
            } else if (m.kind == 11) {
                if (own && t.state >= 7) idle(t);
            } else if (m.kind == 12) {
                post(t, 11, count, 0);
                if (own) idle(t);
            } else {
                t.there = m.kind == 13;
            }
        }

        void trunkTimers(Trunk t) {
            tally.circuitStates[t.state]++;
            if (t.timer.out()) {
                if (t.state == 7) {
                    post(t, 10, t.count, 0);
                    t.timer.set(6);
                } else if (t.state == 8) {
                    reset(t);
                } else {
                    Party other = t.other;
                    letGo(t);
                    letGo(other);
                }
            }
            if (t.second.out()) reset(t);
        }

        Phone phone(int n) { return n >= 0 && n < 54 ? phones[n] : null; }

        boolean dial(int s, int n) {
            if (phone(s) == null || phone(n) == null || s == n || phones[s].state != 0) return false;
            phones[s].state = 1;
            connect(phones[s], n);
            return true;
        }

        boolean answer(int s) {
            if (phone(s) == null || phones[s].state != 3) return false;
            phones[s].state = 4;
            back(phones[s].other, 9);
            return true;
        }

        boolean hang(int s) {
            if (phone(s) == null || phones[s].state == 0 || phones[s].state == 3) return false;
            Party other = phones[s].other;
            part(phones[s]);
            phones[s].state = 0;
            letGo(other);
            return true;
        }

        boolean block(int x, int y, int c, boolean on) {
            if (!neighbours(x, y) || c < 0 || c > 3 || trunks[x][y][c].here == on) return false;
            trunks[x][y][c].here = on;
            post(trunks[x][y][c], on ? 13 : 14, trunks[x][y][c].count, 0);
            return true;
        }

        // ---- what is told

        Side side(int n, int side) {
            return n < 0 || n >= links.size() || side < 0 || side > 1 ? null : links.get(n).sides[side];
        }

        int end(int n, int side, int what) {
            Side e = side(n, side);
            if (e == null || what < 0 || what > 15) return -1;
            return new int[] {e.state, e.timer.left, e.sent, e.taken, e.forward, e.backward, e.unacked.size(),
                e.waits.size(), e.credit, e.round, e.urgent ? 1 : 0, e.waiting.left, e.repeats ? 1 : 0, e.damaged,
                e.life, e.peer}[what];
        }

        List<Integer> octets(int n, int side) {
            List<Integer> all = new ArrayList<>();
            Side e = side(n, side);
            if (e == null || e.signal == null) return all;
            Signal u = e.signal;
            if (u.type.equals("FILL") || u.type.equals("MESSAGE")) {
                all.add(u.taken + 128 * u.backward);
                all.add(u.number + 128 * u.forward);
                all.add(u.type.equals("FILL") ? 0 : 8);
            } else {
                all.add(255);
                all.add(255);
                all.add(1);
                all.add(u.type.equals("STOP") ? 0 : u.type.equals("SEEK") ? 1 : (u.urgent ? 3 : 2) + 4 * u.life);
            }
            if (u.type.equals("MESSAGE")) {
                all.add(u.msg.kind);
                long label = u.msg.to + 16384L * u.msg.from + 268435456L * u.msg.flow;
                for (int i = 0; i < 4; i++, label /= 256) all.add((int) (label % 256));
                all.add(u.msg.first % 256);
                all.add(u.msg.second % 256);
                all.add(u.msg.hops);
            }
            int c = 65535;
            for (int octet : all) {
                for (int bit = 0; bit < 8; bit++, octet /= 2) {
                    boolean differ = octet % 2 != c % 2;
                    c /= 2;
                    if (differ) c ^= 33800;
                }
            }
            c = 65535 - c;
            all.add(c % 256);
            all.add(c / 256);
            return all;
        }

        int octet(int n, int side, int i) {
            List<Integer> all = octets(n, side);
            return i < 0 || i >= all.size() ? -1 : all.get(i);
        }

        int bits(int n, int side) {
            StringBuilder line = new StringBuilder();
            for (int octet : octets(n, side)) {
                for (int bit = 0; bit < 8; bit++, octet /= 2) line.append(octet % 2);
            }
            String stuffed = line.toString().replace("11111", "11111x");
            return stuffed.isEmpty() ? -1 : stuffed.length();
        }

        int flow(int x, int y, int s, int what) {
            if (!neighbours(x, y) || s < 0 || s > 3 || what < 0 || what > 3) return -1;
            Stream f = streams[x][y][s];
            if (what == 0) return f.current == null ? -1 : f.current.number;
            if (what == 3) return f.heldFor == null ? -1 : f.heldFor.number;
            return what == 1 ? f.held : f.kept.size();
        }

        int next(int x, int d, int what) {
            if (!exchange(x) || !exchange(d) || x == d) return -1;
            if (what == 0) return way(x, d, 0, -1);
            if (what >= 10 && what <= 15 && neighbours(x, what - 10)) return prohibited[x][what - 10][d] ? 1 : 0;
            if (what >= 20 && what <= 25 && neighbours(x, what - 20)) {
                Boolean told = toldClosed[x][what - 20][d];
                return told == null ? -1 : told ? 1 : 0;
            }
            return -1;
        }

        int code(Party p) {
            if (p == null) return -1;
            return p instanceof Phone ? ((Phone) p).number : 100 + 10 * ((Trunk) p).to + ((Trunk) p).c;
        }

        int circuit(int x, int y, int c, int what) {
            if (!neighbours(x, y) || c < 0 || c > 3 || what < 0 || what > 7) return -1;
            Trunk t = trunks[x][y][c];
            return new int[] {t.state, t.timer.left, t.here ? 1 : 0, t.there ? 1 : 0, code(t.other), t.number,
                t.count, t.length}[what];
        }

        int subscriber(int n, int what) {
            Phone p = phone(n);
            if (p == null) return -1;
            tally.subscriberStates[p.state]++;
            if (what == 0) return p.state;
            if (what == 1) return code(p.other);
            return what == 2 && p.state == 4 ? talks(p.other) : -1;
        }

        int talks(Party leg) {
            if (leg == null) return -1;
            if (leg instanceof Phone) return leg.state == 4 ? ((Phone) leg).number : -1;
            Trunk t = (Trunk) leg;
            Trunk there = trunks[t.to][t.at][t.c];
            boolean leads = (t.state == 3 || t.state == 6) && (there.state == 3 || there.state == 6);
            if (leads) tally.talks++;
            return leads ? talks(there.other) : -1;
        }

        int counted(int what) {
            return what < 0 || what > 3 ? -1 : new int[] {ticks, lost, done, kind}[what];
        }
    }
}
