/** Promises 1 to 10: what each call takes, answers and refuses. */
public final class FaceTest {
    public static void main(String[] args) {
        newObject();
        wire();
        send();
        put();
        start();
        run();
        register();
        peek();
        link();
        out();
        Check.finish();
    }

    private static int nodesOf(TransputerNet net) {
        int count = 0;
        while (count < 20 && net.register(count, 0) != -1) {
            count++;
        }
        return count;
    }

    private static void newObject() {
        Check.due("NONE", TransputerNet.NONE, -1);
        int[][] counts = {{Integer.MIN_VALUE, 1}, {-1, 1}, {0, 1}, {1, 1}, {2, 2}, {8, 8}, {9, 8},
            {Integer.MAX_VALUE, 8}};
        for (int[] pair : counts) {
            Check.due("nodes of " + pair[0], nodesOf(new TransputerNet(pair[0])), pair[1]);
        }
        TransputerNet net = new TransputerNet(3);
        for (int node = 0; node < 3; node++) {
            for (int address = 32768; address <= 36862; address += 2) {
                Check.due("word at " + address, Code.word(net, node, address),
                        address <= 32802 ? 32768 : 0);
            }
            for (int what = 0; what <= 20; what++) {
                int want = what == 6 ? 2 : what >= 9 && what <= 12 ? 32768 : what == 18 ? 1 : 0;
                Check.due("register " + what + " of a new node", net.register(node, what), want);
            }
            for (int link = 0; link < 4; link++) {
                for (int what = 0; what <= 6; what++) {
                    Check.due("link fact " + what + " of a new node", net.link(node, link, what),
                            what == 2 || what == 6 ? -1 : 0);
                }
            }
        }
        Check.due("out of a new net", net.out(0), -1);
    }

    private static void wire() {
        TransputerNet net = new TransputerNet(3);
        Check.due("wire, no node a", net.wire(3, 0, 0, 0), false);
        Check.due("wire, a below 0", net.wire(-1, 0, 0, 0), false);
        Check.due("wire, no node b", net.wire(0, 0, 3, 0), false);
        Check.due("wire, b below -1", net.wire(0, 0, -2, 0), false);
        Check.due("wire, b as 8", net.wire(0, 0, 8, 0), false);
        Check.due("wire, no link of a", net.wire(0, 4, 1, 0), false);
        Check.due("wire, link of a below 0", net.wire(0, -1, 1, 0), false);
        Check.due("wire, no link of b", net.wire(0, 0, 1, 4), false);
        Check.due("wire, link of b below 0", net.wire(0, 0, 1, -1), false);
        Check.due("wire, both are one", net.wire(1, 2, 1, 2), false);
        for (int node = 0; node < 3; node++) {
            for (int link = 0; link < 4; link++) {
                Check.due("not wired yet", net.link(node, link, 6), -1);
            }
        }
        Check.due("wire two nodes", net.wire(0, 0, 1, 3), true);
        Check.due("wired a", net.link(0, 0, 6), 1);
        Check.due("wired b", net.link(1, 3, 6), 0);
        Check.due("wire again", net.wire(0, 0, 1, 3), false);
        Check.due("wire again, turned round", net.wire(1, 3, 0, 0), false);
        Check.due("wire, a is wired", net.wire(0, 0, 2, 1), false);
        Check.due("wire, b is wired", net.wire(2, 1, 1, 3), false);
        Check.due("the third is free yet", net.link(2, 1, 6), -1);
        Check.due("wire a node to itself", net.wire(2, 0, 2, 1), true);
        Check.due("itself", net.link(2, 0, 6), 2);
        Check.due("itself, other end", net.link(2, 1, 6), 2);
        Check.due("wire the host, a is wired", net.wire(0, 0, -1, 0), false);
        Check.due("wire the host, any link of it", net.wire(0, 1, -1, 77), true);
        Check.due("wired to the host", net.link(0, 1, 6), 8);
        Check.due("the host has one end", net.wire(0, 2, -1, 0), false);
        Check.due("still free", net.link(0, 2, 6), -1);
    }

    /** A POKE of the host shows that the bytes came, in their order. */
    private static void send() {
        TransputerNet net = new TransputerNet(1);
        net.wire(0, 2, -1, 0);
        Check.due("send of -1 bytes", net.send(1, -1), false);
        Check.due("send of 9 bytes", net.send(1, 9), false);
        Check.due("send of none", net.send(1, 0), true);
        Check.due("send of 5", net.send(0x77_B3A2_8800_00L, 5), true);
        Check.due("send of 2", net.send(0xFFFF_8A02L << 8, 2), true);
        Check.due("send of 1", net.send(0x8A, 1), true);
        Check.due("send of 2 more", net.send(0xFFFF_EEDDL, 2), true);
        net.run(300);
        Check.due("the first poke", Code.word(net, 0, 0x8800), 0xB3A2);
        Check.due("the second poke", Code.word(net, 0, 0x8A02), 0xEEDD);
        Check.due("at no link any more", net.start(0, 32804, 36000, 0), true);

        // 512 calls can give 4096 bytes at most, so only a call too many meets the limit
        TransputerNet full = new TransputerNet(1);
        for (int k = 0; k < 511; k++) {
            Check.due("send until it is full", full.send(-1, 8), true);
        }
        Check.due("4088 and 8", full.send(-1, 8), true);
        Check.due("4096 and none", full.send(-1, 0), true);
        Check.due("4096 and 1", full.send(-1, 1), false);
        full.run(50);
        Check.due("the one being sent counts", full.send(-1, 1), false);
    }

    private static void put() {
        TransputerNet net = new TransputerNet(2);
        Check.due("put, no such node", net.put(2, 33000, -1), false);
        Check.due("put, node below 0", net.put(-1, 33000, -1), false);
        Check.due("put below", net.put(0, 32767, -1), false);
        Check.due("put behind", net.put(0, 36857, -1), false);
        Check.due("put far behind", net.put(0, 36864, -1), false);
        Check.due("put at the end of int", net.put(0, Integer.MAX_VALUE, -1), false);
        Check.due("put at its beginning", net.put(0, Integer.MIN_VALUE, -1), false);
        Check.due("put, address above a word", net.put(0, 65536 + 33000, -1), false);
        Check.due("nothing at the first", net.peek(0, 32768), 0);
        Check.due("nothing at the last", net.peek(0, 36863), 0);
        Check.due("nothing between", net.peek(0, 33000), 0);
        Check.due("put first", net.put(0, 32768, 0x8877665544332211L), true);
        Check.due("put last", net.put(0, 36856, 0x8877665544332211L), true);
        Check.due("put odd", net.put(0, 34001, 0x8877665544332211L), true);
        for (int k = 0; k < 8; k++) {
            Check.due("first byte " + k, net.peek(0, 32768 + k), 0x11 * (k + 1));
            Check.due("last byte " + k, net.peek(0, 36856 + k), 0x11 * (k + 1));
            Check.due("odd byte " + k, net.peek(0, 34001 + k), 0x11 * (k + 1));
        }
        Check.due("ahead of them", net.peek(0, 34000), 0);
        Check.due("behind them", net.peek(0, 34009), 0);
        Check.due("the other node", net.peek(1, 34001), 0);
        Check.due("no outcome of all that", net.register(0, 8), 0);
        net.run(1);
        Check.due("nor later", net.register(0, 8), 0);
    }

    private static void start() {
        TransputerNet net = new TransputerNet(2);
        Check.due("start, no such node", net.start(2, 0, 0, 0), false);
        Check.due("start, node below 0", net.start(-1, 0, 0, 0), false);
        Check.due("start, i below 0", net.start(0, -1, 0, 0), false);
        Check.due("start, i above", net.start(0, 65536, 0, 0), false);
        Check.due("start, w below 0", net.start(0, 0, -1, 0), false);
        Check.due("start, w above", net.start(0, 0, 65536, 0), false);
        Check.due("start, priority below 0", net.start(0, 0, 0, -1), false);
        Check.due("start, priority 2", net.start(0, 0, 0, 2), false);
        Check.due("it boots yet", net.register(0, 18), 1);
        Check.due("none runs", net.register(0, 6), 2);
        Check.due("start at the edge", net.start(0, 65535, 65535, 1), true);
        Check.due("I", net.register(0, 4), 65535);
        Check.due("W", net.register(0, 5), 65534);
        Check.due("PRIORITY", net.register(0, 6), 1);
        Check.due("it boots no more", net.register(0, 18), 0);
        for (int what = 0; what < 4; what++) {
            Check.due("A, B, C, O " + what, net.register(0, what), 0);
        }
        Check.due("start again", net.start(0, 32804, 36000, 1), false);
        Check.due("start the other", net.start(1, 0, 0, 0), true);
        Check.due("its PRIORITY", net.register(1, 6), 0);

        TransputerNet booting = new TransputerNet(1);
        booting.wire(0, 0, -1, 0);
        booting.send(0, 1);
        booting.run(10);
        Check.due("no byte yet", booting.link(0, 0, 5), 10);
        booting.run(1);
        Check.due("start while it is at a link", booting.start(0, 32804, 36000, 1), false);
        Check.due("and it boots", booting.register(0, 18), 1);
    }

    private static void run() {
        TransputerNet net = new TransputerNet(1);
        Check.due("run of none", net.run(0), 0);
        Check.due("run of -1", net.run(-1), -1);
        Check.due("run of 1001", net.run(1001), -1);
        Check.due("run of the greatest", net.run(Integer.MAX_VALUE), -1);
        Check.due("run of the least", net.run(Integer.MIN_VALUE), -1);
        Check.due("no tick was made", net.run(0), 0);
        Check.due("run of 3", net.run(3), 3);
        Check.due("clock 0 after 3", net.register(0, 13), 0);
        Check.due("run of 1", net.run(1), 4);
        Check.due("clock 0 after 4", net.register(0, 13), 1);
        Check.due("run of 59", net.run(59), 63);
        Check.due("clock 1 after 63", net.register(0, 14), 0);
        Check.due("run of 1 more", net.run(1), 64);
        Check.due("clock 1 after 64", net.register(0, 14), 1);
        Check.due("clock 0 after 64", net.register(0, 13), 16);
        Check.due("run of 1000", net.run(1000), 1064);
        Check.due("run of another 1000", net.run(1000), 2064);
        Check.due("run of none", net.run(0), 2064);
        for (int k = 0; k < 262; k++) {
            net.run(1000);
        }
        Check.due("clock 0 turns over", net.register(0, 13), 264064 / 4 - 65536);
        Check.due("clock 1 by then", net.register(0, 14), 264064 / 64);
    }

    private static void register() {
        Code code = new Code().stack(7, 8, 9).raw(0x2A);
        TransputerNet net = code.done(1);
        int[] want = {9, 8, 7, 160, Code.AT + 4, Code.W, 1, 0, 0, 32768, 32768, 32768, 32768, 1, 0,
            4, 0, 0, 0, 4, 0};
        for (int what = 0; what < want.length; what++) {
            Check.due("register " + what, net.register(0, what), want[what]);
        }
        Check.due("register -1", net.register(0, -1), -2);
        Check.due("register 21", net.register(0, 21), -2);
        Check.due("register of no node", net.register(1, 0), -1);
        Check.due("register of node -1", net.register(-1, 0), -1);
        Check.due("no node goes ahead of no what", net.register(1, 21), -1);
    }

    private static void peek() {
        TransputerNet net = new TransputerNet(1);
        net.put(0, 36856, 0xFF00000000000000L);
        Check.due("peek of the first word", net.peek(0, 32768), 0);
        Check.due("its high byte", net.peek(0, 32769), 128);
        Check.due("peek of the last byte", net.peek(0, 36863), 255);
        Check.due("peek ahead", net.peek(0, 32767), -1);
        Check.due("peek behind", net.peek(0, 36864), -1);
        Check.due("peek below 0", net.peek(0, -1), -1);
        Check.due("peek above a word", net.peek(0, 65536 + 32769), -1);
        Check.due("peek at no node", net.peek(1, 32768), -1);
        Check.due("peek at node -1", net.peek(-1, 32768), -1);
        net.run(1);
        Check.due("peek beyond is no outcome", net.register(0, 8), 0);
    }

    private static void link() {
        TransputerNet net = new TransputerNet(2);
        Check.due("link of no node", net.link(2, 0, 0), -2);
        Check.due("link of node -1", net.link(-1, 0, 0), -2);
        Check.due("no link", net.link(0, 4, 0), -2);
        Check.due("link -1", net.link(0, -1, 0), -2);
        Check.due("no link goes ahead of no what", net.link(0, 4, 7), -2);
        Check.due("no what", net.link(0, 0, 7), -3);
        Check.due("what -1", net.link(0, 0, -1), -3);
        Check.due("the host is no node", net.link(8, 0, 0), -2);
    }

    /** An endless sender fills the host's 4096 bytes; what comes then is lost, yet acknowledged. */
    private static void out() {
        TransputerNet net = new TransputerNet(1);
        net.wire(0, 0, -1, 0);
        Code code = new Code();
        code.ldl(1).ldc(32768).ldc(4).opr(11);
        code.ldl(1).f(Code.ADC, 4).stl(1);
        code.f(Code.J, -(code.size() + 2));
        code.begin(net, 0, 1);
        net.put(0, Code.W, 33000L << 16);
        for (int k = 0; k < 16; k += 8) {
            net.put(0, 33000 + k, 0x0706050403020100L + 0x0808080808080808L * (k / 8));
        }
        Check.due("out, none yet", net.out(0), -1);
        net.run(170);
        Check.due("out of -1", net.out(-1), -1);
        Check.due("out of the least", net.out(Integer.MIN_VALUE), -1);
        for (int k = 0; k < 9; k++) {
            Check.due("out of " + k, net.out(k), k);
        }
        Check.due("out of the greatest", net.out(Integer.MAX_VALUE), -1);

        TransputerNet full = new TransputerNet(1);
        full.wire(0, 0, -1, 0);
        new Code().ldc(32768).ldc(32768).ldc(4096).opr(11)
                .ldc(32804).ldc(32768).ldc(3).opr(11).ldc(5).stop().begin(full, 0, 1);
        full.put(0, 36856, 0x0908070605040302L);
        Code.runMore(full, 13 * 4099 + 100);
        Check.due("the first", full.out(1), 128);
        Check.due("the last that is kept", full.out(4095), 9);
        Check.due("one more is lost", full.out(4096), -1);
        Check.due("but acknowledged", full.link(0, 0, 0), 0);
        Check.due("so the sender goes on", full.register(0, 0), 5);
    }
}
