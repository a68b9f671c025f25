/** Booting at the edges: addresses at both ends of the memory, lengths, several links (part 5). */
public final class BootEdgeTest {
    /** A byte and its acknowledgement; the last byte is taken without waiting for that. */
    private static final int BYTE = 13;
    private static final int LAST_BYTE = 11;

    public static void main(String[] args) {
        registersAreZero();
        pokeAtTheEdges();
        pokeBeyond();
        peekAtTheEdges();
        peekBeyond();
        lengths();
        channelOfEachLink();
        oneByteATick();
        startWithAByteKept();
        bytesOfOneThatRuns();
        leastLinkOfTwo();
        otherLinkWaits();
        stoppedBootsOn();
        peekUnanswered();
        commandsOneByOne();
        Check.finish();
    }

    private static TransputerNet sent(int... bytes) {
        TransputerNet net = new TransputerNet(1);
        net.wire(0, 2, -1, 0);
        Code.sendBytes(net, bytes);
        return net;
    }

    private static int ticks(int bytes) {
        return (bytes - 1) * BYTE + LAST_BYTE;
    }

    /** "(.. its REGISTERS are 0): no process RUNS". */
    private static void registersAreZero() {
        TransputerNet net = sent(5, 0x41, 0x42, 0x43);
        net.run(ticks(4));
        for (int what = 0; what <= 5; what++) {
            Check.due("register " + what, net.register(0, what), 0);
        }
        Check.due("none runs", net.register(0, 6), 2);
        Check.due("it boots", net.register(0, 18), 1);
        Check.due("nothing is executed", net.register(0, 19), 0);
        Check.due("its bytes are there", net.peek(0, 32806), 0x43);
    }

    private static void poke(int address, int where, int outcome) {
        TransputerNet net = sent(0, address & 255, address >> 8, 0x34, 0x12);
        net.run(ticks(5) - 1);
        Check.due("POKE at " + address + " has an outcome early", net.register(0, 8), 0);
        net.run(1);
        Check.due("POKE at " + address + ", OUTCOME", net.register(0, 8), outcome);
        if (outcome == 0) {
            Check.due("POKE at " + address, Code.word(net, 0, where), 0x1234);
        }
        Check.due("it boots on", net.register(0, 18), 1);
        Check.due("at no link", net.start(0, 32804, 36000, 1), true);
    }

    private static void pokeAtTheEdges() {
        poke(32768, 32768, 0);
        poke(32769, 32768, 0);
        poke(36862, 36862, 0);
        poke(36863, 36862, 0);
    }

    private static void pokeBeyond() {
        int[] beyond = {0, 32766, 32767, 36864, 36865, 65535};
        for (int address : beyond) {
            poke(address, 0, 2);
        }
    }

    private static void peek(int address, int low, int high, int outcome) {
        TransputerNet net = sent(1, address & 255, address >> 8);
        net.put(0, 36856, 0xABCDL << 48);
        net.run(ticks(3) - 1);
        Check.due("PEEK at " + address + " is early", net.link(0, 2, 0), 0);
        net.run(1);
        Check.due("PEEK at " + address + ", to go", net.link(0, 2, 0), 2);
        net.run(4);
        Check.due("PEEK at " + address + ", OUTCOME", net.register(0, 8), outcome);
        net.run(60);
        Check.due("PEEK at " + address + ", low", net.out(0), low);
        Check.due("PEEK at " + address + ", high", net.out(1), high);
        Check.due("PEEK at " + address + ", no more", net.out(2), -1);
        Check.due("none is ready", net.register(0, 11), 32768);
    }

    private static void peekAtTheEdges() {
        peek(32768, 0, 128, 0);
        peek(32769, 0, 128, 0);
        peek(36862, 0xCD, 0xAB, 0);
        peek(36863, 0xCD, 0xAB, 0);
    }

    private static void peekBeyond() {
        int[] beyond = {0, 32766, 32767, 36864, 65535};
        for (int address : beyond) {
            peek(address, 0, 0, 2);
        }
    }

    /** "n, 2 or more": 2, 255 and both sides of an even address. */
    private static void lengths() {
        int[] lengths = {2, 3, 4, 15, 16, 127, 128, 254, 255};
        for (int length : lengths) {
            TransputerNet net = sent(length);
            for (int k = 0; k < length; k++) {
                net.send(k == 0 ? 0x21 : 0x20 | k & 15, 1);
            }
            Code.runMore(net, ticks(length + 1) - 1);
            Check.due("not by one byte less than " + length, net.register(0, 18), 1);
            net.run(1);
            Check.due("by " + length, net.register(0, 18), 0);
            Check.due("W behind " + length, net.register(0, 5), 32804 + (length + 1) / 2 * 2);
            Check.due("I behind its first instruction", net.register(0, 4), 32805);
            Check.due("O began as 0", net.register(0, 3), 16);
            Check.due("A", net.register(0, 0), 32768);
            Check.due("B", net.register(0, 1), 32769);
            Check.due("C", net.register(0, 2), 32780);
            Check.due("SLICE", net.register(0, 15), 1);
            Check.due("the last byte", net.peek(0, 32803 + length), 0x20 | length - 1 & 15);
            Check.due("nothing behind it", net.peek(0, 32804 + length), 0);
        }
    }

    /** "C the LINK's input CHANNEL". */
    private static void channelOfEachLink() {
        for (int link = 0; link < 4; link++) {
            TransputerNet net = new TransputerNet(1);
            net.wire(0, link, -1, 0);
            Code.sendBytes(net, 2, 0x20, 0x20);
            net.run(ticks(3));
            Check.due("the input of link " + link, net.register(0, 2), 32776 + 2 * link);
        }
    }

    /** Two nodes that send commands to a third at the same time, over its links 1 and 3. */
    private static TransputerNet twoSenders(int[] first, int[] second) {
        TransputerNet net = new TransputerNet(3);
        net.wire(0, 0, 2, 1);
        net.wire(1, 0, 2, 3);
        int[][] both = {first, second};
        for (int node = 0; node < 2; node++) {
            new Code().stack(34000, 32768, both[node].length).opr(11).stop().begin(net, node, 1);
            for (int k = 0; k < both[node].length; k++) {
                net.put(node, 34000 + k, both[node][k]);
            }
        }
        net.run(new Code().stack(34000, 32768, first.length).opr(11).size());
        return net;
    }

    /** "takes one byte": the one at the other LINK is taken a tick later, not in the same one. */
    private static void oneByteATick() {
        TransputerNet net = twoSenders(new int[] {0, 0, 0x88, 1, 2}, new int[] {0, 2, 0x88, 3, 4});
        net.run(ticks(5) - 1);
        Check.due("the first POKE lacks a byte", Code.word(net, 2, 0x8800), 0);
        net.run(1);
        Check.due("the first POKE", Code.word(net, 2, 0x8800), 0x0201);
        Check.due("the other's byte is kept", net.link(2, 3, 2), 0);
        net.run(1);
        Check.due("and taken then", net.link(2, 3, 2), -1);
        net.run(2 + ticks(4) - 1);
        Check.due("the second POKE lacks a byte", Code.word(net, 2, 0x8802), 0);
        net.run(1);
        Check.due("the second POKE", Code.word(net, 2, 0x8802), 0x0403);
    }

    /** Behind a POKE it is at no LINK, though a byte is KEPT at another one. */
    private static void startWithAByteKept() {
        TransputerNet net = twoSenders(new int[] {0, 0, 0x88, 1, 2}, new int[] {0, 2, 0x88, 3, 4});
        net.run(ticks(5));
        Check.due("it starts", net.start(2, 34000, 36000, 1), true);
        net.run(30);
        Check.due("the byte stays kept", net.link(2, 3, 2), 0);
        Check.due("and is not acknowledged", net.link(1, 0, 0), 5);
        Check.due("its node runs", net.register(2, 19), 30);
    }

    /** One that BOOTS no more takes no bytes as commands. */
    private static void bytesOfOneThatRuns() {
        TransputerNet net = sent(0, 0, 0x88, 1, 2);
        new Code().stop().begin(net, 0, 1);
        net.run(200);
        Check.due("the first byte is kept", net.link(0, 2, 2), 0);
        Check.due("nothing is written", Code.word(net, 0, 0x8800), 0);
    }

    /** "at the least one that has one". */
    private static void leastLinkOfTwo() {
        TransputerNet net = twoSenders(new int[] {3, 0x41, 0x42, 0x43}, new int[] {2, 0x44, 0x45});
        net.run(ticks(1));
        Check.due("the least link's is taken", net.link(2, 1, 2), -1);
        Check.due("the other's is kept", net.link(2, 3, 2), 2);
        net.run(ticks(4) - ticks(1));
        Check.due("it runs", net.register(2, 6), 1);
        Check.due("with the least link's input", net.register(2, 1), 32768);
        Check.due("C", net.register(2, 2), 32769);
        net.run(100);
        Check.due("the other's is kept for ever", net.link(2, 3, 2), 2);
    }

    /** "at the LINK that it is at": a lower one that comes later has to wait. */
    private static void otherLinkWaits() {
        TransputerNet net = new TransputerNet(2);
        net.wire(0, 3, -1, 0);
        net.wire(0, 0, 1, 0);
        Code.sendBytes(net, 0, 0, 0x88, 1, 2);
        new Code().stack(34000, 32768, 2).opr(11).stop().begin(net, 1, 1);
        net.put(1, 34000, 0x0101);
        net.run(ticks(4));
        Check.due("the lower link's byte is kept", net.link(0, 0, 2), 1);
        net.run(BYTE);
        Check.due("the POKE is done", Code.word(net, 0, 0x8800), 0x0201);
        net.run(1);
        Check.due("now it is taken", net.link(0, 0, 2), -1);
    }

    /** "(also on when it STOPPED ..)". */
    private static void stoppedBootsOn() {
        TransputerNet net = sent(0, 0, 0, 1, 2);
        net.run(ticks(5));
        Check.due("stopped", net.register(0, 8), 2);
        Code.sendBytes(net, 0, 0, 0x88, 7, 8);
        net.run(2 + 5 * BYTE);
        Check.due("a POKE behind that", Code.word(net, 0, 0x8800), 0x0807);
        Code.sendBytes(net, 1, 0, 0x88);
        net.run(100);
        Check.due("a PEEK behind that", net.out(0), 7);
        Code.sendBytes(net, 2, 0x41, 0x42);
        net.run(60);
        Check.due("code behind that", net.register(0, 18), 0);
        Check.due("its W", net.register(0, 5), 32806);
        Check.due("runs, but executes nothing", net.register(0, 19), 0);
        Check.due("its first OUTCOME stays", net.register(0, 8), 2);
    }

    /** "when both are acknowledged it is at no LINK any more": the host does, one by one. */
    private static void peekUnanswered() {
        TransputerNet net = sent(1, 0, 0x80);
        net.run(ticks(3) + 2);
        for (int left = 2; left >= 1; left--) {
            Check.due("to go", net.link(0, 2, 0), left);
            Check.due("with " + left + " to go", net.start(0, 32804, 36000, 1), false);
            net.run(BYTE - 1);
            Check.due("until it is acknowledged", net.start(0, 32804, 36000, 1), false);
            net.run(1);
        }
        Check.due("none to go", net.link(0, 2, 0), 0);
        Check.due("then it is at none", net.start(0, 32804, 36000, 1), true);
    }

    private static void commandsOneByOne() {
        TransputerNet net = sent(0, 0, 0x88, 0x11, 0x22, 1, 0, 0x88, 0, 2, 0x88, 0x33, 0x44,
                1, 2, 0x88, 2, 0x41, 0x42);
        net.run(600);
        int[] want = {0x11, 0x22, 0x33, 0x44, -1};
        for (int k = 0; k < want.length; k++) {
            Check.due("answer " + k, net.out(k), want[k]);
        }
        Check.due("and the code runs", net.register(0, 18), 0);
        Check.due("in its workspace", net.register(0, 5), 32806);
    }
}
