/** Promises 1 to 10 at their edges: each refused call, alone, and that nothing came of it. */
public final class FaceEdgeTest {
    private static final int LEAST = Integer.MIN_VALUE;
    private static final int GREATEST = Integer.MAX_VALUE;

    public static void main(String[] args) {
        mostNodes();
        aboveReservedWords();
        wireOfNoNode();
        wireOfNoLink();
        wireOfOneEnd();
        wireOfWiredEnds();
        wireOfTheHost();
        wireOfAll();
        sendOfWrongCounts();
        sendOfNone();
        sendOfEight();
        sendUpToTheLimit();
        putBeyond();
        putAtNoNode();
        startOfWrongNumbers();
        startAtTheEdges();
        startOfOneThatRuns();
        startOfOneAtALink();
        startOfOneThatStopped();
        runOfWrongNumbers();
        runAtTheEdges();
        registerOfNothing();
        peekBeyond();
        linkOfNothing();
        outOfNothing();
        Check.finish();
    }

    /** All that can be asked of a node, to see whether a refused call changed something. */
    private static int[] facts(TransputerNet net, int node) {
        int[] all = new int[21 + 4 * 7];
        for (int what = 0; what <= 20; what++) {
            all[what] = net.register(node, what);
        }
        for (int k = 0; k < 28; k++) {
            all[21 + k] = net.link(node, k / 7, k % 7);
        }
        return all;
    }

    private static void same(String name, int[] before, int[] after) {
        for (int k = 0; k < before.length; k++) {
            Check.due(name + ", fact " + k, after[k], before[k]);
        }
    }

    /** "1 to 8 (less is 1, more 8)". */
    private static void mostNodes() {
        int[] less = {LEAST, -1, 0, 1};
        for (int nodes : less) {
            TransputerNet net = new TransputerNet(nodes);
            Check.due("node 0 of " + nodes, net.register(0, 18), 1);
            Check.due("node 1 of " + nodes, net.register(1, 18), -1);
        }
        int[] more = {8, 9, GREATEST};
        for (int nodes : more) {
            TransputerNet net = new TransputerNet(nodes);
            Check.due("node 7 of " + nodes, net.register(7, 18), 1);
            Check.due("node 8 of " + nodes, net.register(8, 18), -1);
            Check.due("memory of node 7", net.peek(7, 36863), 0);
            Check.due("memory of node 8", net.peek(8, 36863), -1);
            Check.due("link of node 7", net.link(7, 3, 0), 0);
            Check.due("link of node 8", net.link(8, 3, 0), -2);
        }
        TransputerNet seven = new TransputerNet(7);
        Check.due("node 6 of 7", seven.register(6, 18), 1);
        Check.due("node 7 of 7", seven.register(7, 18), -1);
    }

    /** "every word at 32768 .. 32802 is MINT", and MEMORY behind them is 0. */
    private static void aboveReservedWords() {
        TransputerNet net = new TransputerNet(8);
        for (int node = 0; node < 8; node++) {
            Check.due("the first", Code.word(net, node, 32768), 32768);
            Check.due("the last", Code.word(net, node, 32802), 32768);
            Check.due("behind the last", Code.word(net, node, 32804), 0);
            Check.due("the last word of all", Code.word(net, node, 36862), 0);
        }
    }

    /** "false, and nothing happens, if there is no such node". */
    private static void wireOfNoNode() {
        TransputerNet net = new TransputerNet(2);
        int[] before = facts(net, 0);
        int[] wrong = {LEAST, -1, 2, 8, GREATEST};
        for (int node : wrong) {
            Check.due("wire from node " + node, net.wire(node, 0, 0, 1), false);
            Check.due("wire the host from node " + node, net.wire(node, 0, -1, 0), false);
            if (node != -1) {
                Check.due("wire to node " + node, net.wire(0, 1, node, 0), false);
            }
        }
        Check.due("-1 on both sides", net.wire(-1, 0, -1, 0), false);
        same("wire of no node", before, facts(net, 0));
        Check.due("the host is free yet", net.wire(0, 1, -1, 0), true);
    }

    /** "or link (0 .. 3)". */
    private static void wireOfNoLink() {
        TransputerNet net = new TransputerNet(2);
        int[] before = facts(net, 0);
        int[] wrong = {LEAST, -1, 4, GREATEST};
        for (int link : wrong) {
            Check.due("wire from link " + link, net.wire(0, link, 1, 0), false);
            Check.due("wire to link " + link, net.wire(0, 0, 1, link), false);
            Check.due("wire the host from link " + link, net.wire(0, link, -1, 0), false);
        }
        same("wire of no link", before, facts(net, 0));
        Check.due("the ends are free yet", net.wire(0, 0, 1, 0), true);
        Check.due("the host, too", net.wire(0, 3, -1, 0), true);
    }

    /** "or both are one". */
    private static void wireOfOneEnd() {
        TransputerNet net = new TransputerNet(2);
        for (int node = 0; node < 2; node++) {
            for (int link = 0; link < 4; link++) {
                Check.due("both are one", net.wire(node, link, node, link), false);
                Check.due("and it is free", net.link(node, link, 6), -1);
            }
        }
        Check.due("two ends of one node", net.wire(1, 0, 1, 3), true);
        Check.due("the same link of two nodes", net.wire(0, 1, 1, 1), true);
    }

    /** "or one of both is wired already": either side, and the other stays free. */
    private static void wireOfWiredEnds() {
        TransputerNet net = new TransputerNet(3);
        net.wire(0, 0, 1, 0);
        Check.due("the first is wired", net.wire(0, 0, 2, 0), false);
        Check.due("the second is wired", net.wire(2, 0, 0, 0), false);
        Check.due("the one that it was wired to", net.wire(1, 0, 2, 0), false);
        Check.due("both are wired, to each other", net.wire(1, 0, 0, 0), false);
        Check.due("the host to a wired one", net.wire(1, 0, -1, 0), false);
        Check.due("the third is free", net.link(2, 0, 6), -1);
        Check.due("the first is as it was", net.link(0, 0, 6), 1);
        Check.due("the second is as it was", net.link(1, 0, 6), 0);
        Check.due("the host is free", net.wire(2, 0, -1, 0), true);
    }

    /** "b of - 1 is the HOST (its link is not looked at)". */
    private static void wireOfTheHost() {
        int[] any = {LEAST, -1, 0, 3, 4, GREATEST};
        for (int other : any) {
            TransputerNet net = new TransputerNet(2);
            Check.due("any link of the host", net.wire(1, 3, -1, other), true);
            Check.due("the host is 8", net.link(1, 3, 6), 8);
            Check.due("it has one end", net.wire(0, 0, -1, other), false);
            Check.due("the other is free", net.link(0, 0, 6), -1);
            Check.due("-2 is no host", net.wire(0, 0, -2, 0), false);
        }
    }

    private static void wireOfAll() {
        TransputerNet net = new TransputerNet(8);
        for (int node = 0; node < 8; node++) {
            Check.due("0 to 1", net.wire(node, 0, (node + 1) % 8, 1), true);
            Check.due("2 to 3", net.wire(node, 2, (node + 3) % 8, 3), true);
        }
        for (int node = 0; node < 8; node++) {
            Check.due("0 is wired to", net.link(node, 0, 6), (node + 1) % 8);
            Check.due("1 is wired to", net.link(node, 1, 6), (node + 7) % 8);
            Check.due("2 is wired to", net.link(node, 2, 6), (node + 3) % 8);
            Check.due("3 is wired to", net.link(node, 3, 6), (node + 5) % 8);
        }
        Check.due("none is free", net.wire(4, 1, -1, 0), false);
    }

    /** "false, and none, if n is not such" (0 .. 8): the line stays still. */
    private static void sendOfWrongCounts() {
        int[] wrong = {LEAST, -8, -1, 9, 16, 264, GREATEST};
        for (int n : wrong) {
            TransputerNet net = new TransputerNet(1);
            net.wire(0, 0, -1, 0);
            Check.due("send of " + n, net.send(-1, n), false);
            for (int tick = 0; tick < 3; tick++) {
                net.run(1);
                Check.due("no bit of it", net.link(0, 0, 5), 0);
            }
            net.send(0, 1);
            net.run(1);
            Check.due("the next one goes at once", net.link(0, 0, 5), 1);
        }
    }

    private static void sendOfNone() {
        TransputerNet net = new TransputerNet(1);
        net.wire(0, 0, -1, 0);
        Check.due("send of 0 bytes", net.send(-1, 0), true);
        net.run(3);
        Check.due("sends none", net.link(0, 0, 5), 0);
    }

    /** "the lowest n (0 .. 8) bytes of v, the lowest first", behind those that are there. */
    private static void sendOfEight() {
        for (int n = 1; n <= 8; n++) {
            TransputerNet net = new TransputerNet(1);
            net.wire(0, 0, -1, 0);
            new Code().stack(34000, 32776, n + 1).opr(7).stop().begin(net, 0, 1);
            net.put(0, 34008, -1);
            Check.due("send of " + n, net.send(0xF8E7D6C5B4A39281L, n), true);
            Check.due("send of one more", net.send(0x7FFFFFFFFFFFFF55L, 1), true);
            net.run(300);
            for (int k = 0; k < n; k++) {
                Check.due("byte " + k + " of " + n, net.peek(0, 34000 + k), 0x81 + 0x11 * k);
            }
            Check.due("the one behind " + n, net.peek(0, 34000 + n), 0x55);
            Check.due("no more to come", net.link(0, 0, 1), 0);
        }
    }

    /** The promised calls give 4096 bytes at most; what a call more meets is the limit. */
    private static void sendUpToTheLimit() {
        TransputerNet net = new TransputerNet(1);
        for (int k = 0; k < 512; k++) {
            Check.due("up to 4096", net.send(k, 8), true);
        }
        Check.due("4097 would wait", net.send(0, 1), false);
        Check.due("4104 would wait", net.send(0, 8), false);
        Check.due("none more", net.send(0, 0), true);
        net.wire(0, 0, -1, 0);
        net.run(12);
        Check.due("until one is acknowledged", net.send(0, 1), false);
        net.run(1);
        Check.due("one has room", net.send(0, 2), false);
        Check.due("and no other", net.send(0, 1), true);
        Check.due("then it is full", net.send(0, 1), false);
    }

    /** "false, and none, if one is beyond it": not those within it, either. */
    private static void putBeyond() {
        TransputerNet net = new TransputerNet(1);
        int[] wrong = {LEAST, -1, 0, 32760, 32761, 32767, 36857, 36863, 36864, 65535,
            32768 + 65536, 32768 - 65536, GREATEST - 7, GREATEST};
        for (int address : wrong) {
            Check.due("put at " + address, net.put(0, address, -1), false);
        }
        for (int k = 0; k < 8; k++) {
            Check.due("the first bytes stay", net.peek(0, 32768 + k), k % 2 * 128);
            Check.due("the last bytes stay", net.peek(0, 36856 + k), 0);
        }
        Check.due("put at the first", net.put(0, 32768, -1), true);
        Check.due("put at the last", net.put(0, 36856, -1), true);
        Check.due("the first byte", net.peek(0, 32768), 255);
        Check.due("the last byte", net.peek(0, 36863), 255);
        Check.due("ahead of the last eight", net.peek(0, 36855), 0);
        Check.due("behind the first eight", net.peek(0, 32776), 0);
    }

    /** "or there is no such node". */
    private static void putAtNoNode() {
        TransputerNet net = new TransputerNet(2);
        int[] wrong = {LEAST, -1, 2, 8, GREATEST};
        for (int node : wrong) {
            Check.due("put at node " + node, net.put(node, 34000, -1), false);
        }
        Check.due("node 0 stays", net.peek(0, 34000), 0);
        Check.due("node 1 stays", net.peek(1, 34000), 0);
    }

    /** "False, and nothing happens, if .. these are not 0 .. 65535 (0, 1)". */
    private static void startOfWrongNumbers() {
        TransputerNet net = new TransputerNet(1);
        int[] before = facts(net, 0);
        int[] words = {LEAST, -1, 65536, GREATEST};
        for (int word : words) {
            Check.due("start with I " + word, net.start(0, word, 36000, 1), false);
            Check.due("start with W " + word, net.start(0, 32804, word, 1), false);
        }
        int[] priorities = {LEAST, -1, 2, GREATEST};
        for (int priority : priorities) {
            Check.due("start with " + priority, net.start(0, 32804, 36000, priority), false);
        }
        int[] nodes = {LEAST, -1, 1, 8, GREATEST};
        for (int node : nodes) {
            Check.due("start of node " + node, net.start(node, 32804, 36000, 1), false);
        }
        same("a refused start", before, facts(net, 0));
        Check.due("it may start yet", net.start(0, 32804, 36000, 1), true);
    }

    private static void startAtTheEdges() {
        int[][] edges = {{0, 0, 0, 0}, {0, 1, 1, 0}, {65535, 65535, 0, 65534},
            {32768, 65534, 1, 65534}};
        for (int[] p : edges) {
            TransputerNet net = new TransputerNet(1);
            Check.due("start at " + p[0], net.start(0, p[0], p[1], p[2]), true);
            Check.due("its I", net.register(0, 4), p[0]);
            Check.due("its W is even", net.register(0, 5), p[3]);
            Check.due("its PRIORITY", net.register(0, 6), p[2]);
            Check.due("no OUTCOME yet", net.register(0, 8), 0);
        }
    }

    /** "A node that BOOTS": one that does no more is not started again, whatever it is at. */
    private static void startOfOneThatRuns() {
        TransputerNet net = new TransputerNet(1);
        Code code = new Code().ldc(3).stop().begin(net, 0, 1);
        int[] before = facts(net, 0);
        Check.due("it runs", net.start(0, 34000, 34000, 0), false);
        same("start of one that runs", before, facts(net, 0));
        net.run(code.size());
        before = facts(net, 0);
        Check.due("none runs any more", net.start(0, 34000, 34000, 0), false);
        same("start behind a stopp", before, facts(net, 0));
    }

    /** "and is at no LINK": from the first byte of a command to its last one. */
    private static void startOfOneAtALink() {
        TransputerNet net = new TransputerNet(1);
        net.wire(0, 0, -1, 0);
        Code.sendBytes(net, 0, 0, 0x88, 1, 2);
        net.run(11);
        for (int k = 0; k < 4; k++) {
            int[] before = facts(net, 0);
            Check.due("behind byte " + k, net.start(0, 32804, 36000, 1), false);
            same("start of one at a link", before, facts(net, 0));
            net.run(13);
        }
        Check.due("behind the last byte", net.start(0, 32804, 36000, 1), true);
    }

    private static void startOfOneThatStopped() {
        TransputerNet net = new TransputerNet(1);
        net.wire(0, 0, -1, 0);
        Code.sendBytes(net, 0, 0, 0, 1, 2);
        net.run(100);
        Check.due("a POKE beyond the memory", net.register(0, 8), 2);
        Check.due("it boots on, so it starts", net.start(0, 32804, 36000, 1), true);
        Check.due("and boots no more", net.register(0, 18), 0);
        net.run(9);
        Check.due("but executes nothing", net.register(0, 19), 0);
    }

    /** "- 1, and none, if it is another number". */
    private static void runOfWrongNumbers() {
        TransputerNet net = new TransputerNet(1);
        new Code().raw(0x41).raw(0x42).raw(0x43).begin(net, 0, 1);
        net.run(3);
        int[] before = facts(net, 0);
        int[] wrong = {LEAST, -1000, -1, 1001, 65536, GREATEST};
        for (int ticks : wrong) {
            Check.due("run of " + ticks, net.run(ticks), -1);
        }
        same("a refused run", before, facts(net, 0));
        Check.due("there were 3", net.run(0), 3);
    }

    private static void runAtTheEdges() {
        TransputerNet net = new TransputerNet(1);
        Check.due("run of 0", net.run(0), 0);
        Check.due("makes none", net.register(0, 13), 0);
        Check.due("run of 1000", net.run(1000), 1000);
        Check.due("makes 1000", net.register(0, 13), 250);
        Check.due("run of 999", net.run(999), 1999);
        Check.due("run of 1", net.run(1), 2000);
        Check.due("clock 0 at 2000", net.register(0, 13), 500);
        Check.due("clock 1 at 2000", net.register(0, 14), 31);
    }

    /** "- 1 if there is no such node; - 2 for another what". */
    private static void registerOfNothing() {
        TransputerNet net = new TransputerNet(2);
        int[] nodes = {LEAST, -1, 2, 8, GREATEST};
        for (int node : nodes) {
            for (int what = -1; what <= 21; what++) {
                Check.due("register of node " + node, net.register(node, what), -1);
            }
        }
        int[] whats = {LEAST, -2, -1, 21, 22, 32, GREATEST};
        for (int what : whats) {
            Check.due("register " + what, net.register(1, what), -2);
        }
    }

    /** "NONE beyond it, or without such a node": and no node stops by that. */
    private static void peekBeyond() {
        TransputerNet net = new TransputerNet(2);
        int[] beyond = {LEAST, -1, 0, 32767, 36864, 65535, 32768 + 65536, 32768 - 65536, GREATEST};
        for (int address : beyond) {
            Check.due("peek at " + address, net.peek(1, address), -1);
        }
        int[] nodes = {LEAST, -1, 2, 8, GREATEST};
        for (int node : nodes) {
            Check.due("peek of node " + node, net.peek(node, 32768), -1);
        }
        Check.due("peek at the first", net.peek(1, 32768), 0);
        Check.due("peek at the last", net.peek(1, 36863), 0);
        net.run(2);
        Check.due("no outcome", net.register(1, 8), 0);
    }

    /** "- 2 if there is no such LINK; - 3 for another what". */
    private static void linkOfNothing() {
        TransputerNet net = new TransputerNet(2);
        int[] nodes = {LEAST, -1, 2, 8, GREATEST};
        int[] links = {LEAST, -1, 4, 8, GREATEST};
        for (int k = 0; k < 5; k++) {
            for (int what = -1; what <= 7; what++) {
                Check.due("link of node " + nodes[k], net.link(nodes[k], 0, what), -2);
                Check.due("link " + links[k], net.link(0, links[k], what), -2);
            }
        }
        int[] whats = {LEAST, -2, -1, 7, 8, GREATEST};
        for (int what : whats) {
            Check.due("fact " + what, net.link(1, 3, what), -3);
        }
    }

    /** "NONE if there are not so many": none at all, and one behind the last. */
    private static void outOfNothing() {
        TransputerNet net = new TransputerNet(1);
        int[] none = {LEAST, -1, 0, 1, 4095, 4096, GREATEST};
        for (int i : none) {
            Check.due("out of " + i, net.out(i), -1);
        }
        net.wire(0, 0, -1, 0);
        Code code = new Code().stack(36000, 32768, 1).opr(11).stop().begin(net, 0, 1);
        net.put(0, 36000, 0xFF);
        net.run(code.size() - 2 + 10);
        Check.due("not before its last bit", net.out(0), -1);
        net.run(1);
        Check.due("one", net.out(0), 255);
        int[] others = {LEAST, -1, 1, 2, GREATEST};
        for (int i : others) {
            Check.due("out of " + i + ", of one", net.out(i), -1);
        }
    }
}
