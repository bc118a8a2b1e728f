import java.util.ArrayList;
import java.util.List;
import java.util.function.Consumer;

/**
 * A SignalNetwork that writes down what was called. It refuses a test that calls it more than 512
 * times: the document promises nothing behind that. To tell everything that can be asked of it, it
 * plays its calls again on new objects, so that asking doesn't use up the calls.
 */
final class Net {
    static final int MOST_CALLS = 512;

    private static final int EXCHANGES = 6;
    private static final int LANES = 4;

    private final SignalNetwork x = new SignalNetwork();
    private final List<Consumer<SignalNetwork>> played = new ArrayList<>();
    private int calls;
    private int links;

    private void count(String name, int... arguments) {
        StringBuilder text = new StringBuilder(name).append('(');
        for (int i = 0; i < arguments.length; i++) {
            text.append(i == 0 ? "" : ", ").append(arguments[i]);
        }
        Boundaries.latestCall = text.append(')').toString();
        calls++;
        if (calls > MOST_CALLS) {
            throw new IllegalStateException("the test calls one object more than 512 times");
        }
    }

    private static int asNumber(boolean on) {
        return on ? 1 : 0;
    }

    int link(int a, int b) {
        count("link", a, b);
        played.add(y -> y.link(a, b));
        int number = x.link(a, b);
        links += asNumber(number != SignalNetwork.NONE);
        return number;
    }

    boolean route(int at, int d, int first, int second) {
        count("route", at, d, first, second);
        played.add(y -> y.route(at, d, first, second));
        return x.route(at, d, first, second);
    }

    boolean activate(int link, boolean on) {
        count("activate", link, asNumber(on));
        played.add(y -> y.activate(link, on));
        return x.activate(link, on);
    }

    boolean cut(int link, boolean on) {
        count("cut", link, asNumber(on));
        played.add(y -> y.cut(link, on));
        return x.cut(link, on);
    }

    boolean damage(int link, int side, int n) {
        count("damage", link, side, n);
        played.add(y -> y.damage(link, side, n));
        return x.damage(link, side, n);
    }

    int tick(int n) {
        count("tick", n);
        played.add(y -> y.tick(n));
        return x.tick(n);
    }

    boolean dial(int subscriber, int number) {
        count("dial", subscriber, number);
        played.add(y -> y.dial(subscriber, number));
        return x.dial(subscriber, number);
    }

    boolean answer(int subscriber) {
        count("answer", subscriber);
        played.add(y -> y.answer(subscriber));
        return x.answer(subscriber);
    }

    boolean hang(int subscriber) {
        count("hang", subscriber);
        played.add(y -> y.hang(subscriber));
        return x.hang(subscriber);
    }

    boolean block(int at, int neighbour, int c, boolean on) {
        count("block", at, neighbour, c, asNumber(on));
        played.add(y -> y.block(at, neighbour, c, on));
        return x.block(at, neighbour, c, on);
    }

    int end(int link, int side, int what) {
        count("end", link, side, what);
        return x.end(link, side, what);
    }

    int octet(int link, int side, int i) {
        count("octet", link, side, i);
        return x.octet(link, side, i);
    }

    int bits(int link, int side) {
        count("bits", link, side);
        return x.bits(link, side);
    }

    int flow(int at, int neighbour, int s, int what) {
        count("flow", at, neighbour, s, what);
        return x.flow(at, neighbour, s, what);
    }

    int next(int at, int d, int what) {
        count("next", at, d, what);
        return x.next(at, d, what);
    }

    int circuit(int at, int neighbour, int c, int what) {
        count("circuit", at, neighbour, c, what);
        return x.circuit(at, neighbour, c, what);
    }

    int subscriber(int number, int what) {
        count("subscriber", number, what);
        return x.subscriber(number, what);
    }

    int counted(int what) {
        count("counted", what);
        return x.counted(what);
    }

    // ---------------------------------------------------------------- all that can be asked

    /** Lines of the form "end(0, 1, 3) = 127": of all that there is now, or behind so many ticks. */
    List<String> everything(int ticks) {
        Teller teller = new Teller(ticks);
        for (int what = 0; what < 4; what++) {
            teller.tell("counted", what);
        }
        for (int l = 0; l <= links; l++) {
            for (int side = 0; side < 2; side++) {
                tellEnd(teller, l, side);
            }
        }
        for (int a = 0; a < EXCHANGES; a++) {
            for (int b = 0; b < EXCHANGES; b++) {
                tellTwo(teller, a, b);
            }
        }
        for (int n = 0; n < 10 * EXCHANGES; n++) {
            for (int what = 0; what < 3; what++) {
                teller.tell("subscriber", n, what);
            }
        }
        return teller.lines;
    }

    private static void tellEnd(Teller teller, int link, int side) {
        for (int what = 0; what < 16; what++) {
            teller.tell("end", link, side, what);
        }
        for (int i = 0; i < 14; i++) {
            teller.tell("octet", link, side, i);
        }
        teller.tell("bits", link, side);
    }

    private static void tellTwo(Teller teller, int a, int b) {
        teller.tell("next", a, b, 0);
        for (int other = 0; other < EXCHANGES; other++) {
            teller.tell("next", a, b, 10 + other);
            teller.tell("next", a, b, 20 + other);
        }
        for (int i = 0; i < LANES; i++) {
            for (int what = 0; what < 4; what++) {
                teller.tell("flow", a, b, i, what);
            }
            for (int what = 0; what < 8; what++) {
                teller.tell("circuit", a, b, i, what);
            }
        }
    }

    private final class Teller {
        final List<String> lines = new ArrayList<>();
        private final int ticks;
        private SignalNetwork y;
        private int used;

        Teller(int ticks) {
            this.ticks = ticks;
        }

        void tell(String name, int... a) {
            if (y == null || used == MOST_CALLS) {
                y = new SignalNetwork();
                played.forEach(call -> call.accept(y));
                y.tick(ticks);
                used = played.size() + 1;
            }
            used++;
            lines.add(name + java.util.Arrays.toString(a) + " = " + ask(name, a));
        }

        private int ask(String name, int[] a) {
            return switch (name) {
                case "counted" -> y.counted(a[0]);
                case "end" -> y.end(a[0], a[1], a[2]);
                case "octet" -> y.octet(a[0], a[1], a[2]);
                case "bits" -> y.bits(a[0], a[1]);
                case "next" -> y.next(a[0], a[1], a[2]);
                case "flow" -> y.flow(a[0], a[1], a[2], a[3]);
                case "circuit" -> y.circuit(a[0], a[1], a[2], a[3]);
                default -> y.subscriber(a[0], a[1]);
            };
        }
    }
}
