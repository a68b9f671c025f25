/** How a node boots by the bytes of a link (promises 1, 3, 5, 6, 7, 10). */
public final class BootTest {
    public static void main(String[] args) {
        poke();
        peek();
        peekHoldsTheLink();
        beyond();
        code();
        outputBehindPeek();
        shortest();
        longest();
        leastLink();
        codeOverANode();
        Check.finish();
    }

    private static TransputerNet withHost(int link) {
        TransputerNet net = new TransputerNet(2);
        net.wire(0, link, -1, 0);
        return net;
    }

    private static void poke() {
        TransputerNet net = withHost(3);
        Code.sendBytes(net, 0, 0x01, 0x90 - 8, 0x34, 0x12);
        net.run(5 * 13 - 2 - 1);
        Check.due("not yet", Code.word(net, 0, 0x8800), 0);
        Check.due("at the link", net.start(0, 32804, 36000, 1), false);
        net.run(1);
        Check.due("a poke leaves the lowest bit out", Code.word(net, 0, 0x8800), 0x1234);
        Check.due("it boots yet", net.register(0, 18), 1);
        Check.due("no byte is kept", net.link(0, 3, 2), -1);
        Check.due("at no link", net.start(0, 32804, 36000, 1), true);
    }

    private static void peek() {
        TransputerNet net = withHost(1);
        net.put(0, 0x8800, 0xBEEF);
        Code.sendBytes(net, 1, 0x01, 0x88);
        net.run(3 * 13 - 2);
        Check.due("two bytes to go", net.link(0, 1, 0), 2);
        net.put(0, 0x8800, 0);
        Check.due("at the link", net.start(0, 32804, 36000, 1), false);
        net.run(2 + 26 - 1);
        Check.due("the low byte", net.out(0), 0xEF);
        Check.due("the high byte, as it was", net.out(1), 0xBE);
        Check.due("not acknowledged yet", net.start(0, 32804, 36000, 1), false);
        net.run(1);
        Check.due("none to go", net.link(0, 1, 0), 0);
        Check.due("at no link", net.start(0, 32804, 36000, 1), true);
        Check.due("no more", net.out(2), -1);
    }

    /** The next command's byte is kept until the answer is acknowledged. */
    private static void peekHoldsTheLink() {
        TransputerNet net = withHost(0);
        net.put(0, 0x8800, 0x44332211L);
        Code.sendBytes(net, 1, 0x00, 0x88, 1, 0x02, 0x88);
        net.run(3 * 13 - 2 + 15);
        Check.due("kept meanwhile", net.link(0, 0, 2), 1);
        net.run(200);
        for (int k = 0; k < 4; k++) {
            Check.due("the answers", net.out(k), 0x11 * (k + 1));
        }
    }

    private static void beyond() {
        TransputerNet net = withHost(0);
        Code.sendBytes(net, 0, 0x00, 0x10, 1, 2);
        net.run(5 * 13 - 2 - 1);
        Check.due("no outcome yet", net.register(0, 8), 0);
        net.run(1);
        Check.due("a poke beyond", net.register(0, 8), 2);
        Check.due("it boots yet", net.register(0, 18), 1);
        Code.sendBytes(net, 2, 0x45, 0x46);
        net.run(200);
        Check.due("it boots on", net.register(0, 18), 0);
        Check.due("the process runs", net.register(0, 6), 1);
        Check.due("but executes nothing", net.register(0, 19), 0);
        Check.due("its A", net.register(0, 0), 32768);
        net = withHost(0);
        Code.sendBytes(net, 1, 0x00, 0x90);
        net.run(3 * 13 - 2);
        Check.due("a peek beyond", net.register(0, 8), 2);
        net.run(60);
        Check.due("answers 0", net.out(0), 0);
        Check.due("twice", net.out(1), 0);
        Check.due("start of one that stopped", net.start(0, 32804, 36000, 1), true);
        net.run(3);
        Check.due("executes nothing", net.register(0, 19), 0);
    }

    private static void boot(TransputerNet net, byte[] bytes) {
        net.send(bytes.length, 1);
        for (byte value : bytes) {
            net.send(value, 1);
        }
    }

    private static void code() {
        TransputerNet net = withHost(2);
        Code code = new Code().stl(1).stl(2).stl(3);
        boot(net, code.toBytes());
        net.run(4 * 13 - 2 - 1);
        Check.due("it boots", net.register(0, 18), 1);
        Check.due("none runs", net.register(0, 6), 2);
        net.run(1);
        Check.due("it boots no more", net.register(0, 18), 0);
        Check.due("the first instruction in the same tick", net.register(0, 19), 1);
        Check.due("a low one", net.register(0, 6), 1);
        Check.due("W behind an odd number", net.register(0, 5), 32808);
        Check.due("SLICE", net.register(0, 15), 1);
        Check.due("I", net.register(0, 4), 32805);
        net.run(2);
        Check.due("A was", Code.word(net, 0, 32808 + 2), 32768);
        Check.due("B was", Code.word(net, 0, 32808 + 4), 32769);
        Check.due("C was", Code.word(net, 0, 32808 + 6), 32776 + 4);
        Check.due("start again", net.start(0, 32804, 36000, 1), false);
    }

    /** What a PEEK gave to the output is not seen by the process that uses it then. */
    private static void outputBehindPeek() {
        TransputerNet net = withHost(0);
        Code.sendBytes(net, 1, 0x00, 0x80);
        boot(net, new Code().f(Code.AJW, 20).stack(33500, 32768, 1).opr(11).toBytes());
        net.put(0, 33500, 0x77);
        net.run(500);
        Check.due("the peek, low", net.out(0), 0);
        Check.due("the peek, high", net.out(1), 128);
        Check.due("the process's byte", net.out(2), 0x77);
    }

    private static void shortest() {
        TransputerNet net = withHost(0);
        boot(net, new byte[] {0x45, 0x46});
        net.run(3 * 13 - 2);
        Check.due("two bytes are code", net.register(0, 0), 5);
        Check.due("W at an even byte", net.register(0, 5), 32806);
        Check.due("C of link 0", net.register(0, 2), 32769);
    }

    private static void longest() {
        TransputerNet net = withHost(0);
        byte[] bytes = new byte[255];
        java.util.Arrays.fill(bytes, (byte) 0x41);
        boot(net, bytes);
        Code.runMore(net, 256 * 13 - 2);
        Check.due("255 bytes", net.register(0, 18), 0);
        Check.due("the last", net.peek(0, 32804 + 254), 0x41);
        Check.due("W", net.register(0, 5), 32804 + 256);
    }

    /** Two nodes send to a third, which is at the least link that has a byte. */
    private static void leastLink() {
        TransputerNet net = new TransputerNet(3);
        net.wire(0, 0, 2, 3);
        net.wire(1, 0, 2, 1);
        for (int node = 0; node < 2; node++) {
            new Code().stack(34000, 32768, 5).opr(11).stop().begin(net, node, 0);
            net.put(node, 34000, 0x0088_0000L | (long) (node + 5) << 24);
        }
        Check.due("nothing is at it", net.link(2, 1, 2), -1);
        net.run(40);
        Check.due("at the least link", net.link(1, 0, 0) < 5, true);
        Check.due("the other's byte is kept", net.link(2, 3, 2), 0);
        Check.due("and not acknowledged", net.link(0, 0, 0), 5);
        net.run(200);
        Check.due("both were obeyed, this one last", Code.word(net, 2, 0x8800), 5);
        Check.due("all of the first went", net.link(0, 0, 0), 0);
    }

    private static void codeOverANode() {
        TransputerNet net = new TransputerNet(2);
        net.wire(0, 0, -1, 0);
        net.wire(0, 3, 1, 2);
        Code child = new Code().ldc(7).stl(1).stop();
        // a workspace begins right behind the code, which its W[-1] would overwrite
        Code parent = new Code().f(Code.AJW, 20).stack(34000, 32774, child.size() + 1).opr(11).ldc(3).stop();
        net.put(0, 34000, child.size());
        child.load(net, 0, 34001);
        boot(net, parent.toBytes());
        Code.runMore(net, 600);
        Check.due("the child runs no more", net.register(1, 18), 0);
        Check.due("its C was its link", net.register(1, 1), 32769);
        Check.due("its word", Code.word(net, 1, 32804 + child.size() + child.size() % 2 + 2), 7);
        Check.due("the parent went on", net.register(0, 0), 3);
    }
}
