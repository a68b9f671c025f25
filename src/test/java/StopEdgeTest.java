/** Beyond the memory, and which OUTCOME is the first and stays (the terms ahead of part 1). */
public final class StopEdgeTest {
    private static final int OTHER = 35000;
    private static final int[] BEYOND = {0, 1, 32766, 32767, 36864, 36865, 65534, 65535};

    public static void main(String[] args) {
        bytesBeyond();
        wordsBeyond();
        wordsAtTheEdges();
        localsBeyond();
        ownByteBeyond();
        nextIsOver();
        linkAndClockInOneTick();
        clockBeyond();
        firstOutcomeOfALinkStays();
        firstOutcomeOfAnInstructionStays();
        stoppedNodeGoesOn();
        otherNodesGoOn();
        Check.finish();
    }

    private static void stoppedBehind(String name, TransputerNet net, int a) {
        Check.due(name + ", OUTCOME", net.register(0, 8), 2);
        Check.due(name + ", A", net.register(0, 0), a);
        Check.due(name + ", O", net.register(0, 3), 0);
        Check.due(name + ", it runs", net.register(0, 6), 1);
    }

    private static void edgesStay(String name, TransputerNet net) {
        Check.due(name + ", the first word", Code.word(net, 0, 32768), 32768);
        Check.due(name + ", the last word", Code.word(net, 0, 36862), 0);
    }

    /** "read as 0, and written nowhere". */
    private static void bytesBeyond() {
        for (int address : BEYOND) {
            TransputerNet net = new Code().stack(3, 4, address).opr(1).ldc(9).done(1);
            stoppedBehind("lb at " + address, net, 0);
            net = new Code().stack(3, 0x5566, address).opr(59).ldc(9).done(1);
            stoppedBehind("sb at " + address, net, 3);
            edgesStay("sb at " + address, net);
        }
    }

    private static void wordsBeyond() {
        for (int address : BEYOND) {
            TransputerNet net = new Code().stack(3, 4, address).f(Code.LDNL, 0).ldc(9).done(1);
            stoppedBehind("ldnl at " + address, net, 0);
            net = new Code().stack(3, 0x5566, address).f(Code.STNL, 0).ldc(9).done(1);
            stoppedBehind("stnl at " + address, net, 3);
            edgesStay("stnl at " + address, net);
            net = new Code().stack(3, 4, address).opr(61).ldc(9).done(1);
            stoppedBehind("savel at " + address, net, 4);
        }
    }

    /** The last word is whole, also at its odd address; so is the first. */
    private static void wordsAtTheEdges() {
        int[] addresses = {32768, 32769, 36862, 36863};
        for (int address : addresses) {
            TransputerNet net = new Code().stack(3, 0x5566, address).f(Code.STNL, 0)
                    .ldc(address).f(Code.LDNL, 0).done(1);
            Check.due("no outcome at " + address, net.register(0, 8), 0);
            Check.due("the word at " + address, net.register(0, 0), 0x5566);
            Check.due("its low byte", net.peek(0, address & 65534), 0x66);
            Check.due("its high byte", net.peek(0, address | 1), 0x55);
            net = new Code().stack(3, 0x5566, address).opr(59).ldc(address).opr(1).done(1);
            Check.due("no outcome of a byte at " + address, net.register(0, 8), 0);
            Check.due("the byte at " + address, net.register(0, 0), 0x66);
        }
        TransputerNet net = new Code().stack(3, 4, 36862).opr(61).ldc(9).done(1);
        Check.due("savel at the last word: FRONT", Code.word(net, 0, 36862), 32768);
        Check.due("and BACK beyond it", net.register(0, 8), 2);
    }

    private static void localsBeyond() {
        int[] workspaces = {0, 32766, 36864, 65534};
        for (int workspace : workspaces) {
            TransputerNet net = new Code().ldc(workspace).opr(60).ldl(0).ldc(9).done(1);
            stoppedBehind("ldl with W " + workspace, net, 0);
            net = new Code().ldc(7).ldc(workspace).opr(60).stl(0).ldc(9).done(1);
            stoppedBehind("stl with W " + workspace, net, 7);
        }
        TransputerNet net = new Code().ldc(36864).opr(60).ldl(-1).ldc(9).done(1);
        Check.due("W[-1] of 36864", net.register(0, 8), 0);
        net = new Code().ldc(32766).opr(60).ldl(1).ldc(9).done(1);
        Check.due("W[1] of 32766", net.register(0, 8), 0);
        Check.due("it is MINT", net.register(0, 1), 32768);
    }

    /** "(the instruction's own byte is one of these ..)": it is read as 0, a jump of 0. */
    private static void ownByteBeyond() {
        int[] places = {0, 32767, 36864, 65535};
        for (int place : places) {
            TransputerNet net = new TransputerNet(1);
            net.start(0, place, 36000, 1);
            net.run(3);
            Check.due("OUTCOME at " + place, net.register(0, 8), 2);
            Check.due("I behind " + place, net.register(0, 4), place + 1 & 65535);
            Check.due("one instruction", net.register(0, 19), 1);
            Check.due("SLICE", net.register(0, 15), 1);
            Check.due("it runs", net.register(0, 6), 1);
        }
        int[] within = {32768, 36863};
        for (int place : within) {
            TransputerNet net = new TransputerNet(1);
            net.start(0, place, 36000, 1);
            net.run(1);
            Check.due("no outcome at " + place, net.register(0, 8), 0);
        }
    }

    /** "as soon as .. the NEXT .. is over": ahead of the instruction. */
    private static void nextIsOver() {
        Code code = new Code().ldc(36867).opr(57).stop();
        TransputerNet net = code.done(1);
        Check.due("ahead of NEXT", net.register(0, 8), 0);
        int executed = net.register(0, 19);
        net.run(1);
        Check.due("OUTCOME", net.register(0, 8), 2);
        Check.due("W", net.register(0, 5), 36866);
        Check.due("I is read as 0", net.register(0, 4), 0);
        Check.due("a low one runs", net.register(0, 6), 1);
        Check.due("its SLICE is 0", net.register(0, 15), 0);
        Check.due("no instruction", net.register(0, 19), executed);
        Check.due("the queue is empty", net.register(0, 11), 32768);
    }

    /** "(behind the CLOCKS of that tick)": those that are due then are READY all the same. */
    private static void linkAndClockInOneTick() {
        TransputerNet net = new TransputerNet(1);
        net.wire(0, 0, -1, 0);
        Code first = new Code().ldc(OTHER | 1).opr(57).stack(36864, 32776, 1).opr(7);
        Code second = new Code().ldc(0).opr(43);
        first.begin(net, 0, 1);
        second.load(net, 0, 33300);
        Code.setWord(net, 0, OTHER - 2, 33300);
        net.run(64 - 11);
        Check.due("one waits for the byte", net.link(0, 0, 1), 1);
        Check.due("one for the time", net.register(0, 16), 1);
        net.send(5, 1);
        int executed = net.register(0, 19);
        net.run(10);
        Check.due("not yet", net.register(0, 8), 0);
        net.run(1);
        Check.due("OUTCOME", net.register(0, 8), 2);
        Check.due("the clock went on", net.register(0, 14), 1);
        Check.due("the time is over", net.register(0, 16), 0);
        Check.due("the link's process is ready first", net.register(0, 11), Code.W);
        Check.due("then the clock's", net.register(0, 12), OTHER);
        Check.due("none runs", net.register(0, 6), 2);
        Check.due("nothing is executed", net.register(0, 19), executed);
    }

    /** W[-5] of one that waits lies beyond the memory: tin itself finds that. */
    private static void clockBeyond() {
        int[][] places = {{32778, 0}, {32776, 2}, {36864, 0}, {36866, 2}};
        for (int[] p : places) {
            TransputerNet net = new Code().ldc(p[0]).opr(60).ldc(100).opr(43).done(1);
            Check.due("tin with W " + p[0], net.register(0, 8), p[1]);
            Check.due("it is timed", net.register(0, 16), 1);
            Check.due("it waits", net.register(0, 6), 2);
            Code.runMore(net, 64 * 101);
            Check.due("its time is over", net.register(0, 16), 0);
            Check.due("it is ready, or ran", net.register(0, 12), p[0]);
        }
    }

    /** "its first OUTCOME stays": a link stops the node, then another byte does nothing more. */
    private static void firstOutcomeOfALinkStays() {
        TransputerNet net = new TransputerNet(1);
        net.wire(0, 0, -1, 0);
        Code code = new Code().ldc(OTHER | 1).opr(57).stack(36864, 32776, 1).opr(7);
        code.begin(net, 0, 1);
        Code wait = new Code();
        while (wait.size() < 100) {
            wait.ldc(0);
        }
        wait.opr(99).load(net, 0, 33300);
        Code.setWord(net, 0, OTHER - 2, 33300);
        net.run(code.size());
        net.send(5, 1);
        net.run(200);
        Check.due("2 came first", net.register(0, 8), 2);
    }

    private static void firstOutcomeOfAnInstructionStays() {
        int[][] cases = {{99, 1}, {74, 5}, {16, 6}};
        for (int[] p : cases) {
            TransputerNet net = new TransputerNet(1);
            net.wire(0, 0, -1, 0);
            Code code = new Code().ldc(OTHER | 1).opr(57).stack(36864, 32776, 1).opr(7);
            Code second = new Code().opr(88).stack(3, 4, 5000).opr(p[0]);
            code.begin(net, 0, 1);
            second.load(net, 0, 33300);
            Code.setWord(net, 0, OTHER - 2, 33300);
            net.run(code.size() + second.size());
            Check.due("OUTCOME " + p[1], net.register(0, 8), p[1]);
            net.send(5, 1);
            net.run(100);
            Check.due("the byte was taken", net.link(0, 0, 1), 0);
            Check.due("OUTCOME " + p[1] + " stays", net.register(0, 8), p[1]);
        }
    }

    /** "executes nothing any more (its links and clocks go on ..)": there is no NEXT, either. */
    private static void stoppedNodeGoesOn() {
        TransputerNet net = new TransputerNet(1);
        net.wire(0, 0, -1, 0);
        Code code = new Code().ldc(OTHER | 1).opr(57).stack(34000, 32776, 2).opr(7);
        Code second = new Code().opr(99);
        code.begin(net, 0, 1);
        second.load(net, 0, 33300);
        Code.setWord(net, 0, OTHER - 2, 33300);
        net.run(code.size() + second.size());
        Check.due("stopped", net.register(0, 8), 1);
        int executed = net.register(0, 19);
        int clock = net.register(0, 13);
        net.send(0x0605, 2);
        net.run(400);
        Check.due("the bytes came", Code.word(net, 0, 34000), 0x0605);
        Check.due("the clock went on", net.register(0, 13), clock + 100);
        Check.due("nothing was executed", net.register(0, 19), executed);
        Check.due("the one that stopped it runs yet", net.register(0, 5), OTHER);
        Check.due("in its PRIORITY", net.register(0, 6), 1);
        Check.due("the other is ready", net.register(0, 11), Code.W);
    }

    private static void otherNodesGoOn() {
        TransputerNet net = new TransputerNet(2);
        new Code().opr(99).begin(net, 0, 1);
        new Code().f(Code.J, -2).begin(net, 1, 1);
        net.run(100);
        Check.due("one stopped", net.register(0, 8), 1);
        Check.due("the other did not", net.register(1, 8), 0);
        Check.due("it executes on", net.register(1, 19), 100);
    }
}
