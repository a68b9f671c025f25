/** Part 5 of the document's terms: packets, engines, guards of links, resetch (promises 2, 6, 9). */
public final class LinkEngineTest {
    private static final int OTHER = 35000;
    private static final int DATA = 34100;
    private static final int TO = 34200;
    private static final int MINT = Code.MINT;

    public static void main(String[] args) {
        unwired();
        packetBits();
        addressesOfBoth();
        keptByte();
        keptIsTakenFirst();
        keptIsLost();
        engaged();
        guards();
        guardLeavesTheRow();
        disablingALink();
        resetOutput();
        lateAcknowledgement();
        resetInput();
        resetInputIsFree();
        bothWays();
        eleventhBit();
        wiredInThePacket();
        host();
        Check.finish();
    }

    private static TransputerNet pair(Code zero, Code one) {
        TransputerNet net = new TransputerNet(2);
        net.wire(0, 1, 1, 2);
        zero.begin(net, 0, 1);
        one.begin(net, 1, 1);
        net.put(0, DATA, 0x0807060504030201L);
        net.put(1, DATA, 0x1817161514131211L);
        return net;
    }

    private static Code outputs(int link, int count) {
        return new Code().stack(DATA, 32768 + 2 * link, count).opr(11);
    }

    private static Code inputs(int link, int count) {
        return new Code().stack(TO, 32776 + 2 * link, count).opr(7);
    }

    /** An end that is not wired sends its packet all the same, and waits for ever. */
    private static void unwired() {
        TransputerNet net = new TransputerNet(1);
        Code code = outputs(3, 2).ldc(9);
        code.begin(net, 0, 1);
        net.run(code.size() - 1);
        Check.due("given", net.link(0, 3, 0), 2);
        Check.due("not begun in that tick", net.link(0, 3, 4), 0);
        for (int k = 1; k <= 10; k++) {
            net.run(1);
            Check.due("bits put", net.link(0, 3, 4), k);
        }
        net.run(1);
        Check.due("at none behind the packet", net.link(0, 3, 4), 0);
        net.run(200);
        Check.due("never acknowledged", net.link(0, 3, 0), 2);
        Check.due("nothing read", net.link(0, 3, 5), 0);
        Check.due("none runs", net.register(0, 6), 2);
    }

    /** 11 bits of data, 2 of the acknowledgement: each end sees the other's in the same tick. */
    private static void packetBits() {
        Code sender = outputs(1, 2).ldc(9).stop();
        Code receiver = inputs(2, 2).ldc(8).stop();
        TransputerNet net = pair(sender, receiver);
        net.run(sender.size() - 3);
        Check.due("both wait", net.register(0, 6) + net.register(1, 6), 4);
        Check.due("to go", net.link(0, 1, 0), 2);
        Check.due("to come", net.link(1, 2, 1), 2);
        for (int k = 1; k <= 10; k++) {
            net.run(1);
            Check.due("put", net.link(0, 1, 4), k);
            Check.due("read", net.link(1, 2, 5), k);
            Check.due("no byte yet", net.link(1, 2, 1), 2);
        }
        net.run(1);
        Check.due("a byte came", net.link(1, 2, 1), 1);
        Check.due("to its address", net.peek(1, TO), 1);
        Check.due("the receiver waits for the last one", net.register(1, 6), 2);
        Check.due("read none of the next", net.link(1, 2, 5), 0);
        Check.due("not acknowledged", net.link(0, 1, 0), 2);
        net.run(1);
        Check.due("the acknowledgement's first bit", net.link(1, 2, 4), 1);
        Check.due("and read", net.link(0, 1, 5), 1);
        net.run(1);
        Check.due("its second", net.link(1, 2, 4), 0);
        Check.due("acknowledged", net.link(0, 1, 0), 1);
        Check.due("read", net.link(0, 1, 5), 0);
        net.run(11);
        Check.due("the last came", net.peek(1, TO + 1), 2);
        Check.due("the receiver runs at once", net.register(1, 0), 8);
        Check.due("the sender does not yet", net.register(0, 6), 2);
        net.run(2);
        Check.due("the sender runs", net.register(0, 0), 9);
        Check.due("nothing more", net.peek(1, TO + 2), 0);
        Check.due("no bytes to go", net.link(0, 1, 0), 0);
    }

    private static void addressesOfBoth() {
        for (int link = 0; link < 4; link++) {
            Code out = new Code().stack(DATA, 32776 + 2 * link + 1, 4).opr(11);
            TransputerNet net = out.done(1);
            Check.due("out to an input's address", net.link(0, link, 0), 4);
            Code in = new Code().stack(DATA, 32768 + 2 * link + 1, 5).opr(7);
            net = in.done(1);
            Check.due("in from an output's address", net.link(0, link, 1), 5);
        }
        TransputerNet net = new Code().stack(8, 32768, 0x1234).opr(14).done(1);
        Check.due("outbyte to a link", net.link(0, 0, 0), 1);
        net = new Code().stack(8, 32784, 1).opr(11).done(1);
        Check.due("32784 is no link's", Code.word(net, 0, 32784), Code.W | 1);
        net = new Code().stack(8, 32768, 0x1234).opr(15).done(1);
        Check.due("outword to a link", net.link(0, 0, 0), 2);
        Check.due("outword to a link, W[0]", Code.word(net, 0, Code.W), 0x1234);
        Check.due("outword to a link pops", net.register(0, 0), 8);
    }

    private static Code pause(Code code, int instructions) {
        for (int k = 0; k < instructions; k++) {
            code.raw(0xC0);
        }
        return code;
    }

    private static void keptByte() {
        Code late = pause(new Code(), 40);
        late.stack(TO, 32776 + 4, 1).opr(7).ldc(8).stop();
        TransputerNet net = pair(outputs(1, 1).ldc(9).stop(), late);
        net.run(39);
        Check.due("kept", net.link(1, 2, 2), 1);
        Check.due("not acknowledged", net.link(0, 1, 0), 1);
        Check.due("the sender waits", net.register(0, 6), 2);
        net.run(late.size() - 39 - 3);
        Check.due("taken at once", net.link(1, 2, 2), -1);
        Check.due("it came", net.peek(1, TO), 1);
        Check.due("without a wait", net.register(1, 6), 1);
        Check.due("the input waits for none", net.link(1, 2, 1), 0);
        Check.due("popped", net.register(1, 0), TO);
        net.run(2);
        Check.due("and acknowledged", net.link(0, 1, 0), 0);
        Check.due("W[-1] is not written", Code.word(net, 1, Code.W - 2), 0);
    }

    private static void keptIsTakenFirst() {
        Code late = pause(new Code(), 40);
        late.stack(TO, 32776 + 4, 3).opr(7).ldc(8).stop();
        TransputerNet net = pair(outputs(1, 3).ldc(9).stop(), late);
        net.run(late.size() - 3);
        Check.due("two to come", net.link(1, 2, 1), 2);
        Check.due("it waits", net.register(1, 6), 2);
        net.run(60);
        Check.due("the first", net.peek(1, TO), 1);
        Check.due("the second", net.peek(1, TO + 1), 2);
        Check.due("the third", net.peek(1, TO + 2), 3);
        Check.due("it went on", net.register(1, 0), 8);
        Check.due("the sender, too", net.register(0, 0), 9);
    }

    /** Without resetch no byte follows one that is kept, so a sender is reset to lose one. */
    private static void keptIsLost() {
        Code sender = new Code().ldc(OTHER | 1).opr(57).stack(DATA, 32770, 1).opr(11);
        Code second = pause(new Code(), 20);
        second.ldc(32770).opr(18).stack(DATA + 1, 32770, 1).opr(11);
        TransputerNet net = pair(sender, pause(new Code(), 300));
        Code.setWord(net, 0, OTHER - 2, 33300);
        second.load(net, 0, 33300);
        net.run(200);
        Check.due("the first is kept", net.link(1, 2, 2), 1);
        Check.due("the next does not go without an acknowledgement", net.link(0, 1, 0), 1);
        Check.due("nor begin", net.link(0, 1, 4), 0);
    }

    private static void engaged() {
        int[][] cases = {{11, 32768}, {7, 32776}};
        for (int[] p : cases) {
            Code first = new Code().ldc(OTHER | 1).opr(57).stack(DATA, p[1], 2).opr(p[0]);
            Code second = new Code().stack(DATA + 1, p[1], 1).opr(p[0]).ldc(9);
            TransputerNet net = new TransputerNet(1);
            first.begin(net, 0, 1);
            Code.setWord(net, 0, OTHER - 2, 33300);
            second.load(net, 0, 33300);
            net.run(first.size() + second.size());
            Check.due("another is there: OUTCOME", net.register(0, 8), 3);
            Check.due("another is there: popped", net.register(0, 0), DATA + 1);
            Check.due("another is there: I", net.register(0, 4), 33300 + second.size() - 1);
            Check.due("another is there: its bytes", net.link(0, 0, p[0] == 11 ? 0 : 1), 2);
        }
    }

    private static Code guarded() {
        return new Code().opr(67).ldc(32776 + 4).ldc(1).opr(72);
    }

    private static void guards() {
        Code waits = guarded().opr(68).ldc(8).stop();
        TransputerNet net = pair(outputs(1, 1), waits);
        net.run(waits.size() - 3);
        Check.due("a guard", net.link(1, 2, 3), 1);
        Check.due("it waits", net.register(1, 6), 2);
        net.run(20);
        Check.due("the byte is kept", net.link(1, 2, 2), 1);
        Check.due("the guard is none", net.link(1, 2, 3), 0);
        Check.due("W[-3]", Code.word(net, 1, Code.W - 6), 32771);
        Check.due("it was ready", net.register(1, 0), 8);

        Code enables = pause(guarded(), 40);
        net = pair(outputs(1, 1), enables);
        net.run(enables.size());
        Check.due("while enabling: W[-3]", Code.word(net, 1, Code.W - 6), 32771);
        Check.due("while enabling: the guard is none", net.link(1, 2, 3), 0);
        Check.due("while enabling: not ready", net.register(1, 11), MINT);

        Code late = pause(new Code(), 40);
        late.opr(67).ldc(32776 + 4).ldc(1).opr(72);
        net = pair(outputs(1, 1), late);
        net.run(late.size());
        Check.due("enbc of a kept byte: W[-3]", Code.word(net, 1, Code.W - 6), 32771);
        Check.due("enbc of a kept byte: no guard", net.link(1, 2, 3), 0);
    }

    private static void guardLeavesTheRow() {
        Code waits = new Code().opr(78).ldc(900).ldc(1).opr(71).ldc(32776 + 4).ldc(1).opr(72)
                .opr(81).ldc(8).stop();
        TransputerNet net = pair(pause(new Code(), 30).stack(DATA, 32770, 1).opr(11), waits);
        net.run(waits.size());
        Check.due("timed", net.register(1, 16), 1);
        net.run(60);
        Check.due("timed no more", net.register(1, 16), 0);
        Check.due("it went on", net.register(1, 0), 8);
        Check.due("W[-5] is its time yet", Code.word(net, 1, Code.W - 10), 900);
    }

    private static void disablingALink() {
        Code waits = guarded().opr(68).stack(32776 + 4, 1, 6).opr(47).stop();
        TransputerNet net = pair(outputs(1, 1), waits);
        net.run(50);
        Check.due("disc of a kept byte", net.register(1, 0), 1);
        Check.due("W[0]", Code.word(net, 1, Code.W), 6);
        Check.due("the byte is kept yet", net.link(1, 2, 2), 1);
        // a guard of another process stays
        Code first = new Code().ldc(OTHER | 1).opr(57).opr(67).ldc(32776).ldc(1).opr(72).opr(68);
        TransputerNet one = new TransputerNet(1);
        first.begin(one, 0, 1);
        Code.setWord(one, 0, OTHER - 2, 33300);
        Code second = new Code().stack(32776, 1, 6).opr(47).stack(32776, 0, 6).opr(47);
        second.load(one, 0, 33300);
        one.run(first.size() + second.size());
        Check.due("the guard of another", one.link(0, 0, 3), 1);
    }

    private static void resetOutput() {
        Code sender = new Code().ldc(OTHER | 1).opr(57).stack(DATA, 32770, 5).opr(11);
        Code second = new Code().stack(3, 4, 32771).opr(18);
        int reset = second.size();
        second.stack(DATA + 4, 32770, 1).opr(11).ldc(9).stop();
        Code receiver = inputs(2, 2).ldc(8).stop();
        TransputerNet net = pair(sender, receiver);
        Code.setWord(net, 0, OTHER - 2, 33300);
        second.load(net, 0, 33300);
        net.run(sender.size() + reset);
        Check.due("the process at the output", net.register(0, 0), Code.W | 1);
        Check.due("B stays", net.register(0, 1), 4);
        Check.due("no bytes any more", net.link(0, 1, 0), 0);
        Check.due("its packet goes on", net.link(0, 1, 4) > 0, true);
        int before = net.link(0, 1, 4);
        net.run(1);
        Check.due("and on", net.link(0, 1, 4), before + 1);
        net.run(200);
        Check.due("the first byte came", net.peek(1, TO), 1);
        Check.due("and the new one's", net.peek(1, TO + 1), 5);
        Check.due("the new one went on", net.register(0, 0), 9);
        Check.due("the old one did not", net.register(0, 11), MINT);
        Check.due("all were taken", net.register(1, 0), 8);
        net = new Code().stack(3, 4, 32774).opr(18).done(1);
        Check.due("without a process", net.register(0, 0), MINT);
    }

    /** The byte of the one that was reset is acknowledged when the next one waits already. */
    private static void lateAcknowledgement() {
        Code sender = new Code().ldc(OTHER | 1).opr(57).stack(DATA, 32770, 5).opr(11);
        Code second = new Code().ldc(32770).opr(18).stack(DATA + 4, 32770, 1).opr(11).ldc(9).stop();
        Code receiver = pause(new Code(), 80).stack(TO, 32780, 2).opr(7).ldc(8).stop();
        TransputerNet net = pair(sender, receiver);
        Code.setWord(net, 0, OTHER - 2, 33300);
        second.load(net, 0, 33300);
        net.run(80);
        Check.due("the new one has its byte to go", net.link(0, 1, 0), 1);
        Check.due("but puts nothing", net.link(0, 1, 4), 0);
        net.run(receiver.size() - 80);
        Check.due("the acknowledgement counts for no other", net.link(0, 1, 0), 1);
        net.run(2);
        Check.due("now it goes", net.link(0, 1, 4) > 0, true);
        net.run(40);
        Check.due("the old byte", net.peek(1, TO), 1);
        Check.due("the new byte", net.peek(1, TO + 1), 5);
        Check.due("the new one went on", net.register(0, 0), 9);
    }

    /** The bit behind the eight is 1 here: the other's acknowledgement, in a line laid too late. */
    private static void eleventhBit() {
        TransputerNet net = new TransputerNet(2);
        Code first = new Code().ldc(OTHER | 1).opr(57).stack(TO, 32776, 1).opr(7);
        Code second = new Code().stack(DATA, 32768, 1).opr(11);
        first.begin(net, 0, 1);
        Code.setWord(net, 0, OTHER - 2, 33300);
        second.load(net, 0, 33300);
        net.put(0, DATA, 0b0000_1110);
        int wired = first.size() + second.size() + 2;
        Code other = new Code().stack(DATA, 32768, 1).opr(11);
        Code late = pause(new Code(), wired - other.size()).stack(DATA, 32768, 1).opr(11);
        late.begin(net, 1, 1);
        net.run(wired);
        Check.due("two bits put", net.link(0, 0, 4), 2);
        Check.due("none put", net.link(1, 0, 4), 0);
        net.wire(0, 0, 1, 0);
        net.run(12);
        Check.due("eight bits of the byte alone", net.link(1, 0, 2), 1);
        Check.due("the acknowledgement began", net.link(0, 0, 4), 1);
    }

    private static void resetInput() {
        Code first = new Code().ldc(OTHER).opr(57).stack(TO, 32778, 5).opr(7);
        Code second = new Code().ldc(32776).opr(18).ldc(32778).opr(18);
        TransputerNet net = new TransputerNet(1);
        first.begin(net, 0, 0);
        Code.setWord(net, 0, OTHER - 2, 33300);
        second.load(net, 0, 33300);
        net.run(first.size());
        Check.due("five to come", net.link(0, 1, 1), 5);
        net.run(second.size());
        Check.due("the process at the input", net.register(0, 0), Code.W);
        Check.due("none at the other", net.register(0, 1), MINT);
        Check.due("none to come", net.link(0, 1, 1), 0);

        Code late = pause(guarded(), 40);
        late.ldc(32772).opr(18).ldc(32780).opr(18);
        net = pair(outputs(1, 1), late);
        net.run(late.size() - 4);
        Check.due("kept", net.link(1, 2, 2), 1);
        net.run(4);
        Check.due("kept no more", net.link(1, 2, 2), -1);
        Check.due("A", net.register(1, 0), MINT);
        net.run(30);
        Check.due("never acknowledged", net.link(0, 1, 0), 1);
        TransputerNet guard = new Code().opr(67).ldc(32780).ldc(1).opr(72).ldc(32780).opr(18).done(1);
        Check.due("its guard is gone", guard.link(0, 2, 3), 0);
    }

    private static void resetInputIsFree() {
        Code first = new Code().ldc(OTHER | 1).opr(57).stack(TO, 32776, 5).opr(7);
        Code second = new Code().ldc(32776).opr(18).stack(TO + 8, 32776, 1).opr(7).ldc(9).stop();
        TransputerNet net = new TransputerNet(1);
        net.wire(0, 0, -1, 0);
        first.begin(net, 0, 1);
        Code.setWord(net, 0, OTHER - 2, 33300);
        second.load(net, 0, 33300);
        net.run(first.size() + second.size() - 3);
        Check.due("another may come to it", net.register(0, 8), 0);
        Check.due("for one byte", net.link(0, 0, 1), 1);
        net.send(0x55, 1);
        net.run(20);
        Check.due("its byte", net.peek(0, TO + 8), 0x55);
        Check.due("it went on", net.register(0, 0), 9);
    }

    /** An acknowledgement goes ahead of the next byte, never inside a packet. */
    private static void bothWays() {
        Code zero = new Code().ldc(OTHER | 1).opr(57).stack(DATA, 32770, 4).opr(11).ldc(9).stop();
        Code one = new Code().ldc(OTHER | 1).opr(57).stack(DATA, 32772, 4).opr(11).ldc(9).stop();
        TransputerNet net = pair(zero, one);
        for (int node = 0; node < 2; node++) {
            Code.setWord(net, node, OTHER - 2, 33300);
            new Code().stack(TO, 32776 + 2 * (node + 1), 4).opr(7).ldc(8).stop()
                    .load(net, node, 33300);
        }
        net.run(30);
        Check.due("three bytes to go yet", net.link(0, 1, 0), 3);
        net.run(100);
        for (int k = 0; k < 4; k++) {
            Check.due("to node 1", net.peek(1, TO + k), k + 1);
            Check.due("to node 0", net.peek(0, TO + k), k + 0x11);
        }
        Check.due("none to go", net.link(0, 1, 0) + net.link(1, 2, 0), 0);
    }

    /** A line that is laid in the middle of a packet gives the rest of its bits alone. */
    private static void wiredInThePacket() {
        TransputerNet net = new TransputerNet(2);
        Code code = outputs(0, 1);
        code.begin(net, 0, 1);
        net.put(0, DATA, 0b0010_0100);
        net.run(code.size() + 2);
        Check.due("two bits put", net.link(0, 0, 4), 2);
        net.wire(0, 0, 1, 0);
        net.run(2);
        Check.due("two 0s", net.link(1, 0, 5), 0);
        net.run(1);
        Check.due("then a 1", net.link(1, 0, 5), 1);
        net.run(1);
        Check.due("then a 0: an acknowledgement", net.link(1, 0, 5), 0);
        net.run(100);
        Check.due("that is left out", net.link(1, 0, 2), -1);
        Check.due("to go yet", net.link(0, 0, 0), 1);
    }

    private static void host() {
        TransputerNet net = new TransputerNet(1);
        Code code = new Code().stack(TO, 32776, 3).opr(7).stack(TO, 32768, 3).opr(11).ldc(9).stop();
        code.begin(net, 0, 1);
        net.wire(0, 0, -1, 0);
        net.send(0x332211, 3);
        net.run(10);
        Check.due("10 ticks of a packet", net.link(0, 0, 1), 3);
        net.run(1);
        Check.due("11 ticks of a packet", net.link(0, 0, 1), 2);
        net.run(200);
        for (int k = 0; k < 3; k++) {
            Check.due("came to " + k, net.peek(0, TO + k), 0x11 * (k + 1));
            Check.due("went back " + k, net.out(k), 0x11 * (k + 1));
        }
        Check.due("no more", net.out(3), -1);
        Check.due("it went on", net.register(0, 0), 9);

        TransputerNet late = new TransputerNet(1);
        new Code().stop().begin(late, 0, 1);
        late.send(0xFF, 1);
        late.run(3);
        late.wire(0, 0, -1, 0);
        late.run(10);
        Check.due("the host begins without a line", late.link(0, 0, 5), 10);
        late.run(1);
        Check.due("so the node reads what is left of it, and 0s", late.link(0, 0, 2), 0b11111);
    }
}
