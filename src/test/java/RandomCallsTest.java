import java.util.Random;

/** Any calls in any state: none throws, all answers keep to their bounds, and come out the same twice. */
public final class RandomCallsTest {
    private static final int OBJECTS = 800;
    private static final int CALLS = 250;
    private static final int[] EDGES = {Integer.MIN_VALUE, -65536, -32768, -9, -8, -2, -1, 0, 1, 2, 3,
        4, 7, 8, 9, 16, 255, 256, 1000, 1001, 4095, 4096, 32767, 32768, 32769, 32776, 32804, 36000,
        36855, 36856, 36857, 36862, 36863, 36864, 65534, 65535, 65536, Integer.MAX_VALUE};

    private final Random random;
    private final TransputerNet net;
    private final TransputerNet twin;
    private int made;

    private RandomCallsTest(long seed) {
        random = new Random(seed);
        int nodes = random.nextInt(11) - 1;
        net = new TransputerNet(nodes);
        twin = new TransputerNet(nodes);
    }

    public static void main(String[] args) {
        for (int seed = 0; seed < OBJECTS; seed++) {
            RandomCallsTest test = new RandomCallsTest(seed);
            test.prepare();
            for (int call = 0; call < CALLS; call++) {
                test.callOne();
            }
        }
        Check.finish();
    }

    private int edge() {
        return EDGES[random.nextInt(EDGES.length)];
    }

    /** Mostly such that it can be met. */
    private int below(int bound) {
        return random.nextInt(8) == 0 ? edge() : random.nextInt(bound);
    }

    private int word() {
        return random.nextInt(3) == 0 ? edge() : 32768 + random.nextInt(4096);
    }

    private void prepare() {
        for (int k = 0; k < 6; k++) {
            wire();
        }
        for (int node = 0; node < 8; node++) {
            for (int k = 0; k < 24; k++) {
                putAt(node, 32804 + 8 * k);
            }
            if (random.nextInt(4) != 0) {
                int w = 34000 + random.nextInt(2800);
                int priority = random.nextInt(2);
                same("start", net.start(node, 32804, w, priority),
                        twin.start(node, 32804, w, priority));
            }
        }
    }

    /** Operations and their prefixes are frequent, so that many of the known ones are met. */
    private long code() {
        long v = 0;
        for (int k = 0; k < 8; k++) {
            int value = random.nextInt(256);
            if (random.nextInt(2) == 0) {
                value = random.nextInt(3) == 0 ? 0xF0 | random.nextInt(16) : 0x20 | random.nextInt(8);
            } else if (random.nextInt(3) == 0) {
                value = 0x10 | random.nextInt(16);
            }
            v = v << 8 | value;
        }
        return v;
    }

    private static void same(String name, boolean one, boolean other) {
        Check.due(name + " of both", one, other);
    }

    private static int same(String name, int one, int other, long least, long most) {
        Check.due(name + " of both", one, other);
        Check.due(name + " is " + one + ", within", one >= least && one <= most, true);
        return one;
    }

    private void callOne() {
        switch (random.nextInt(12)) {
            case 0: wire(); break;
            case 1: send(); break;
            case 2: putAt(below(8), word()); break;
            case 3: start(); break;
            case 4:
            case 5:
            case 6: run(); break;
            case 7:
            case 8: register(); break;
            case 9: peek(); break;
            case 10: link(); break;
            default: out(); break;
        }
    }

    private void wire() {
        int a = below(8);
        int link = below(4);
        int b = random.nextInt(4) == 0 ? -1 : below(8);
        int other = below(4);
        same("wire", net.wire(a, link, b, other), twin.wire(a, link, b, other));
    }

    private void send() {
        long v = random.nextLong();
        if (random.nextInt(3) == 0) {
            v &= 0x0303_8803_0300L;
        }
        int n = below(9);
        same("send", net.send(v, n), twin.send(v, n));
    }

    private void putAt(int node, int address) {
        long v = code();
        same("put", net.put(node, address, v), twin.put(node, address, v));
    }

    private void start() {
        int node = below(8);
        int i = word();
        int w = word();
        int priority = below(2);
        same("start", net.start(node, i, w, priority), twin.start(node, i, w, priority));
    }

    private void run() {
        int ticks = random.nextInt(4) == 0 ? edge() : random.nextInt(60);
        boolean refused = ticks < 0 || ticks > 1000;
        made += refused ? 0 : ticks;
        int want = refused ? -1 : made;
        same("run", net.run(ticks), twin.run(ticks), want, want);
    }

    private void register() {
        int node = below(8);
        int what = below(21);
        int got = same("register", net.register(node, what), twin.register(node, what), -2, 512000);
        if (got >= 0) {
            Check.due("register " + what + " is " + got + ", within", got <= most(what), true);
            Check.due("W is even", what != 5 || got % 2 == 0, true);
        }
    }

    private static int most(int what) {
        int[] bounds = {65535, 65535, 65535, 65535, 65535, 65534, 2, 1, 6, 65535, 65535, 65535,
            65535, 65535, 65535, 512000, 64, 1, 1, 512000, 1024};
        return bounds[what];
    }

    private void peek() {
        int node = below(8);
        int address = word();
        same("peek", net.peek(node, address), twin.peek(node, address), -1, 255);
    }

    private void link() {
        int node = below(8);
        int link = below(4);
        int what = below(7);
        int[] bounds = {4096, 4096, 255, 1, 10, 10, 8};
        long most = what >= 0 && what <= 6 ? bounds[what] : -2;
        same("link", net.link(node, link, what), twin.link(node, link, what), -3, most);
    }

    private void out() {
        int i = random.nextInt(2) == 0 ? edge() : random.nextInt(20);
        same("out", net.out(i), twin.out(i), -1, 255);
    }
}
