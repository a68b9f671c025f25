/** Links at the edges: acknowledgements too early, bytes that are lost, both ends of a byte (part 5). */
public final class LinkEdgeTest {
    private static final int OTHER = 35000;
    private static final int DATA = 34100;
    private static final int TO = 34200;
    private static final int IN = 7;
    private static final int OUT = 11;

    public static void main(String[] args) {
        noLine();
        everyByte();
        keptIsLost();
        acknowledgedAtTheFirstBit();
        acknowledgedTooEarly();
        acknowledgedInThePacket();
        engagedOutput();
        engagedByOneByte();
        engagedByAWord();
        engagedInput();
        engagedAheadOfBeyond();
        lastByteOfTheMemory();
        firstByteOfTheMemory();
        keptByteBeyond();
        addressTurnsOver();
        guardInNoState();
        guardOfOneThatIsDone();
        guardBeyond();
        newGuard();
        inputLeavesTheGuard();
        resetOfAnIdleOutput();
        resetTwice();
        oweds();
        hostKeepsAll();
        Check.finish();
    }

    private static Code pause(int instructions) {
        Code code = new Code();
        for (int k = 0; k < instructions; k++) {
            code.raw(0xC0);
        }
        return code;
    }

    private static Code then(Code code, int operation, int pointer, int count) {
        return code.stack(pointer, 32768, count).opr(operation);
    }

    private static TransputerNet pair(Code zero, Code one) {
        TransputerNet net = new TransputerNet(2);
        net.wire(0, 0, 1, 0);
        zero.begin(net, 0, 1);
        one.begin(net, 1, 1);
        net.put(0, DATA, 0x0807060504030201L);
        return net;
    }

    /** "(none: it reads 0s)". */
    private static void noLine() {
        TransputerNet net = new TransputerNet(1);
        then(new Code(), IN, TO, 1).begin(net, 0, 1);
        net.run(1000);
        Check.due("waits for ever", net.link(0, 0, 1), 1);
        Check.due("reads nothing", net.link(0, 0, 5), 0);
        Check.due("none is kept", net.link(0, 0, 2), -1);
    }

    /** All bits of a byte, none and all of them among these. */
    private static void everyByte() {
        int[] values = {0, 1, 0x55, 0x7F, 0x80, 0xAA, 0xFE, 0xFF};
        for (int value : values) {
            TransputerNet net = pair(then(new Code(), OUT, DATA, 1).ldc(5).stop(), pause(60));
            net.put(0, DATA, value);
            net.run(40);
            Check.due("kept", net.link(1, 0, 2), value);
        }
    }

    /**
     * Two nodes without a line: node 1 is in a packet of the byte 4. Its bits behind the first four
     * are 1, 0, 0 ..: an acknowledgement to node 0, which is wired to it then and begins its own
     * packet so many ticks later.
     */
    private static TransputerNet crossed(int later) {
        TransputerNet net = new TransputerNet(2);
        Code early = then(new Code(), OUT, DATA, 1);
        Code late = then(pause(4 + later), OUT, DATA, 2);
        late.begin(net, 0, 1);
        early.begin(net, 1, 1);
        net.put(0, DATA, 0x2211);
        net.put(1, DATA, 4);
        net.run(early.size() + 4);
        net.wire(0, 0, 1, 0);
        return net;
    }

    /** "one that is KEPT is lost, if another comes". */
    private static void keptIsLost() {
        TransputerNet net = crossed(0);
        net.run(11);
        Check.due("the first is kept", net.link(1, 0, 2), 0x11);
        net.run(10);
        Check.due("as long as no other comes", net.link(1, 0, 2), 0x11);
        net.run(1);
        Check.due("then it is lost", net.link(1, 0, 2), 0x22);
        net.run(100);
        Check.due("the last is not acknowledged", net.link(0, 0, 0), 1);
        Check.due("and stays", net.link(1, 0, 2), 0x22);
    }

    /** A byte waits for one in the middle of its packet, too; the packet goes on. */
    private static void acknowledgedInThePacket() {
        TransputerNet net = crossed(0);
        net.run(1);
        Check.due("two to go", net.link(0, 0, 0), 2);
        Check.due("the acknowledgement's first bit", net.link(0, 0, 5), 1);
        net.run(1);
        Check.due("one to go", net.link(0, 0, 0), 1);
        Check.due("the packet goes on", net.link(0, 0, 4), 2);
        net.run(9);
        Check.due("to its end", net.link(0, 0, 4), 0);
        Check.due("and is read", net.link(1, 0, 2), 0x11);
        net.run(1);
        Check.due("the next one follows at once", net.link(0, 0, 4), 1);
    }

    /** "from the first bit of its packet on". */
    private static void acknowledgedAtTheFirstBit() {
        TransputerNet net = crossed(1);
        net.run(1);
        Check.due("no bit put yet", net.link(0, 0, 4), 0);
        Check.due("one bit read", net.link(0, 0, 5), 1);
        net.run(1);
        Check.due("the first bit", net.link(0, 0, 4), 1);
        Check.due("is acknowledged", net.link(0, 0, 0), 1);
    }

    /** "An acknowledgement that comes while no byte waits for one .. is left out". */
    private static void acknowledgedTooEarly() {
        TransputerNet net = crossed(2);
        net.run(2);
        Check.due("read", net.link(0, 0, 5), 0);
        Check.due("none is put yet", net.link(0, 0, 4), 0);
        Check.due("two to go", net.link(0, 0, 0), 2);
        net.run(100);
        Check.due("two to go for ever", net.link(0, 0, 0), 2);
        Check.due("the first byte is kept", net.link(1, 0, 2), 0x11);
        Check.due("no other is put", net.link(0, 0, 4), 0);
    }

    private static TransputerNet second(Code first, Code second) {
        TransputerNet net = new TransputerNet(1);
        Code code = new Code().ldc(OTHER | 1).opr(57);
        for (byte value : first.toBytes()) {
            code.raw(value);
        }
        code.begin(net, 0, 1);
        second.load(net, 0, 33300);
        Code.setWord(net, 0, OTHER - 2, 33300);
        net.run(code.size() + second.size());
        return net;
    }

    /** "the node STOPS with OUTCOME 3 (with the registers popped)". */
    private static void engagedOutput() {
        TransputerNet net = second(then(new Code(), OUT, DATA, 3),
                then(new Code().ldc(7), OUT, DATA + 9, 1).ldc(5));
        Check.due("OUTCOME", net.register(0, 8), 3);
        Check.due("A", net.register(0, 0), DATA + 9);
        Check.due("B", net.register(0, 1), DATA + 9);
        Check.due("C", net.register(0, 2), DATA + 9);
        Check.due("O", net.register(0, 3), 0);
        Check.due("no WAIT", net.register(0, 6), 1);
        Check.due("the other's bytes", net.link(0, 0, 0), 3);
    }

    private static void engagedByOneByte() {
        TransputerNet net = second(then(new Code(), OUT, DATA, 3),
                new Code().stack(7, 32768, 0x1234).opr(14).ldc(5));
        Check.due("outbyte, OUTCOME", net.register(0, 8), 3);
        Check.due("outbyte, W[0]", Code.word(net, 0, OTHER), 0x1234);
        Check.due("outbyte, A", net.register(0, 0), 7);
        Check.due("outbyte, B", net.register(0, 1), 7);
    }

    private static void engagedByAWord() {
        TransputerNet net = second(then(new Code(), OUT, DATA, 3),
                new Code().stack(7, 32776, 0x1234).opr(15).ldc(5));
        Check.due("outword, OUTCOME", net.register(0, 8), 3);
        Check.due("outword, W[0]", Code.word(net, 0, OTHER), 0x1234);
        Check.due("outword, A", net.register(0, 0), 7);
    }

    private static void engagedInput() {
        TransputerNet net = second(then(new Code(), IN, DATA, 3),
                then(new Code(), IN, DATA + 9, 1).ldc(5));
        Check.due("OUTCOME", net.register(0, 8), 3);
        Check.due("A", net.register(0, 0), DATA + 9);
        Check.due("no WAIT", net.register(0, 6), 1);
        Check.due("the other's bytes", net.link(0, 0, 1), 3);
        net = second(then(new Code(), OUT, DATA, 3), then(new Code(), IN, DATA, 2));
        Check.due("an output and an input", net.register(0, 8), 0);
        Check.due("are two", net.link(0, 0, 1), 2);
        net = second(then(new Code(), IN, DATA, 3),
                new Code().stack(DATA, 32770, 2).opr(IN));
        Check.due("two links, too", net.register(0, 8), 0);
    }

    /** 3 "comes within an instruction, then 2": W[0] of an outbyte is beyond the memory. */
    private static void engagedAheadOfBeyond() {
        TransputerNet net = second(then(new Code(), OUT, DATA, 3),
                new Code().ldc(40000).opr(60).stack(7, 32768, 0x1234).opr(14).ldc(5));
        Check.due("3 goes ahead of 2", net.register(0, 8), 3);
        net = second(new Code().stop(),
                new Code().ldc(40000).opr(60).stack(7, 32768, 0x1234).opr(14).ldc(5));
        Check.due("2 alone", net.register(0, 8), 2);
    }

    private static void lastByteOfTheMemory() {
        TransputerNet net = pair(then(new Code(), OUT, 36863, 1).ldc(5).stop(),
                then(new Code(), IN, 36863, 1).ldc(6).stop());
        net.put(0, 36856, 0x99L << 56);
        net.run(60);
        Check.due("the last byte went", net.register(0, 0), 5);
        Check.due("the last byte came", net.peek(1, 36863), 0x99);
        Check.due("to one that goes on", net.register(1, 0), 6);
        Check.due("no outcome of the sender", net.register(0, 8), 0);
        Check.due("nor of the receiver", net.register(1, 8), 0);
    }

    /** A byte ahead of the memory is 0, and comes to nowhere; the next one is the first there. */
    private static void firstByteOfTheMemory() {
        TransputerNet net = pair(then(new Code(), OUT, 32767, 2), then(new Code(), IN, 32767, 2));
        net.put(0, 32768, 0x44);
        net.run(60);
        Check.due("the second byte", net.peek(1, 32768), 0x44);
        Check.due("the third place stays", net.peek(1, 32769), 128);
        Check.due("the sender stopped", net.register(0, 8), 2);
        Check.due("the receiver stopped", net.register(1, 8), 2);
        Check.due("the links went on", net.link(0, 0, 0) + net.link(1, 0, 1), 0);
        Check.due("the sender is ready", net.register(0, 11), Code.W);
        Check.due("the receiver is ready", net.register(1, 11), Code.W);
    }

    /** A byte that was KEPT is written by the instruction itself. */
    private static void keptByteBeyond() {
        Code late = then(pause(30), IN, 36864, 1).ldc(6);
        TransputerNet net = pair(then(new Code(), OUT, DATA, 1), late);
        net.run(late.size());
        Check.due("OUTCOME", net.register(1, 8), 2);
        Check.due("behind the in", net.register(1, 0), 36864);
        Check.due("which took it", net.link(1, 0, 2), -1);
    }

    /** The address behind 65535 is 0, so a byte does not come to the memory from there. */
    private static void addressTurnsOver() {
        TransputerNet net = pair(then(new Code(), OUT, 65535, 2).stop(),
                then(new Code(), IN, 65535, 2).stop());
        net.run(100);
        Check.due("OUTCOME of the sender", net.register(0, 8), 2);
        Check.due("OUTCOME of the receiver", net.register(1, 8), 2);
        Check.due("all went", net.link(0, 0, 0), 0);
        Check.due("the first word stays", Code.word(net, 1, 32768), 32768);
    }

    private static Code guarded(int state) {
        return new Code().ldc(state).stl(-3).ldc(32776).ldc(1).opr(72);
    }

    private static TransputerNet guardMeets(int state, int after) {
        TransputerNet net = new TransputerNet(2);
        net.wire(0, 0, 1, 0);
        Code waits = guarded(state).stop();
        waits.begin(net, 1, 1);
        then(pause(20), OUT, DATA, 1).begin(net, 0, 1);
        net.put(0, DATA, 9);
        net.run(waits.size());
        Check.due("a guard in " + state, net.link(1, 0, 3), 1);
        net.run(60);
        Check.due("kept in " + state, net.link(1, 0, 2), 9);
        Check.due("no guard behind " + state, net.link(1, 0, 3), 0);
        Check.due("W[-3] behind " + state, Code.word(net, 1, Code.W - 6), after);
        return net;
    }

    /** Neither 32769 nor 32770: nothing happens to the process, yet "the GUARD is none then". */
    private static void guardInNoState() {
        int[] states = {0, 32768, 32772, 65535};
        for (int state : states) {
            TransputerNet net = guardMeets(state, state);
            Check.due("none is ready", net.register(1, 11), 32768);
            Check.due("none runs", net.register(1, 6), 2);
        }
        TransputerNet net = guardMeets(32770, 32771);
        Check.due("32770: it was ready, and runs", net.register(1, 6), 1);
    }

    private static void guardOfOneThatIsDone() {
        TransputerNet net = guardMeets(32771, 32771);
        Check.due("none is ready", net.register(1, 11), 32768);
        net = guardMeets(32769, 32771);
        Check.due("none is ready of one that is enabling", net.register(1, 11), 32768);
    }

    /** The word at x - 6 lies beyond the memory: "behind the CLOCKS of that tick". */
    private static void guardBeyond() {
        TransputerNet net = new TransputerNet(2);
        net.wire(0, 0, 1, 0);
        new Code().ldc(0).opr(60).ldc(32776).ldc(1).opr(72).f(Code.J, -2).begin(net, 1, 0);
        Code sender = then(pause(20), OUT, DATA, 1);
        sender.begin(net, 0, 1);
        net.run(sender.size() + 10);
        Check.due("ahead of the byte", net.register(1, 8), 0);
        int executed = net.register(1, 19);
        net.run(1);
        Check.due("with the byte", net.register(1, 8), 2);
        Check.due("nothing is executed in that tick", net.register(1, 19), executed);
        Check.due("the byte is kept", net.link(1, 0, 2), 0);
        Check.due("the guard is none", net.link(1, 0, 3), 0);
    }

    /** "the link has OWN as its GUARD": the last one that said so. */
    private static void newGuard() {
        TransputerNet net = new TransputerNet(1);
        net.wire(0, 0, -1, 0);
        Code first = new Code().ldc(OTHER | 1).opr(57, 67).ldc(32776).ldc(1).opr(72, 68);
        Code second = new Code().opr(67).ldc(32776).ldc(1).opr(72, 68);
        first.begin(net, 0, 1);
        second.load(net, 0, 33300);
        Code.setWord(net, 0, OTHER - 2, 33300);
        net.run(first.size() + second.size());
        net.send(9, 1);
        net.run(11);
        Check.due("the second is told", Code.word(net, 0, OTHER - 6), 32771);
        Check.due("the first is not", Code.word(net, 0, Code.W - 6), 32770);
        Check.due("the second runs", net.register(0, 5), OTHER);
    }

    /** A process at the input takes the byte; the GUARD is not asked. */
    private static void inputLeavesTheGuard() {
        TransputerNet net = new TransputerNet(1);
        net.wire(0, 0, -1, 0);
        Code code = then(guarded(32769), IN, TO, 1).ldc(5).stop();
        code.begin(net, 0, 1);
        net.run(code.size());
        net.send(9, 1);
        net.run(20);
        Check.due("the byte came", net.peek(0, TO), 9);
        Check.due("none is kept", net.link(0, 0, 2), -1);
        Check.due("the guard stays", net.link(0, 0, 3), 1);
        Check.due("it went on", net.register(0, 0), 5);
    }

    /** A resetch between packets leaves the output free at once. */
    private static void resetOfAnIdleOutput() {
        TransputerNet net = new TransputerNet(1);
        net.wire(0, 0, -1, 0);
        Code code = new Code().ldc(32768).opr(18);
        then(code, OUT, DATA, 2).ldc(5).stop().begin(net, 0, 1);
        net.put(0, DATA, 0x2211);
        net.run(code.size() - 3);
        Check.due("two to go", net.link(0, 0, 0), 2);
        net.run(1);
        Check.due("at once", net.link(0, 0, 4), 1);
        net.run(60);
        Check.due("both went", net.out(1), 0x22);
        Check.due("it went on", net.register(0, 0), 5);
    }

    /** The byte of the first is on its way still, for all that is reset meanwhile. */
    private static void resetTwice() {
        Code first = then(new Code(), OUT, DATA, 5);
        Code second = new Code().ldc(32768).opr(18).ldc(32768).opr(18);
        then(second, OUT, DATA + 6, 2).ldc(5).stop();
        TransputerNet net = new TransputerNet(1);
        net.wire(0, 0, -1, 0);
        Code code = new Code().ldc(OTHER | 1).opr(57);
        for (byte value : first.toBytes()) {
            code.raw(value);
        }
        code.begin(net, 0, 1);
        second.load(net, 0, 33300);
        Code.setWord(net, 0, OTHER - 2, 33300);
        net.put(0, DATA, 0x0807060504030201L);
        net.run(200);
        int[] want = {1, 7, 8, -1};
        for (int k = 0; k < want.length; k++) {
            Check.due("byte " + k, net.out(k), want[k]);
        }
        Check.due("the second went on", net.register(0, 0), 5);
        Check.due("no outcome", net.register(0, 8), 0);
        Check.due("the first never did", Code.word(net, 0, Code.W - 2), Code.AT + code.size());
    }

    /** An acknowledgement is owed until its turn: none begins inside of another packet. */
    private static void oweds() {
        TransputerNet net = new TransputerNet(1);
        net.wire(0, 0, -1, 0);
        Code first = new Code().ldc(OTHER | 1).opr(57);
        then(first, IN, TO, 1);
        Code second = then(new Code(), OUT, DATA, 1);
        first.begin(net, 0, 1);
        second.load(net, 0, 33300);
        Code.setWord(net, 0, OTHER - 2, 33300);
        net.run(first.size() + second.size() - 8);
        net.send(0x77, 1);
        net.run(11);
        Check.due("the byte came", net.peek(0, TO), 0x77);
        int put = net.link(0, 0, 4);
        Check.due("in the middle of a packet", put > 0, true);
        net.run(11 - put);
        Check.due("which goes to its end", net.link(0, 0, 4), 0);
        net.run(1);
        Check.due("then the acknowledgement", net.link(0, 0, 4), 1);
        net.run(1);
        Check.due("ends", net.link(0, 0, 4), 0);
    }

    /** "(it keeps them, at most 4096, the others are lost)", and acknowledges each. */
    private static void hostKeepsAll() {
        TransputerNet net = new TransputerNet(1);
        net.wire(0, 0, -1, 0);
        Code code = then(new Code(), OUT, 32768, 4095);
        then(code, OUT, DATA, 3).ldc(5).stop().begin(net, 0, 1);
        net.put(0, DATA, 0x030201);
        Code.runMore(net, 13 * 4095 + code.size());
        Check.due("4095 are kept", net.out(4094) >= 0, true);
        Code.runMore(net, 13 * 3 + 20);
        Check.due("the last that is kept", net.out(4095), 1);
        Check.due("the next is lost", net.out(4096), -1);
        Check.due("all were acknowledged", net.register(0, 0), 5);
    }
}
