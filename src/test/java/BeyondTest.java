/** What happens beyond the memory, and which outcome is the first (promises 6, 7, 8). */
public final class BeyondTest {
    private static final int OTHER = 35000;

    public static void main(String[] args) {
        instructions();
        ownByte();
        next();
        clock();
        linkBytes();
        firstOutcomeStays();
        Check.finish();
    }

    private static void instructions() {
        int[] places = {0, 32767, 36864, 65535};
        for (int place : places) {
            TransputerNet net = new Code().stack(3, 4, place).opr(1).ldc(9).done(1);
            Check.due("lb at " + place, net.register(0, 8), 2);
            Check.due("it is read as 0", net.register(0, 0), 0);
            Check.due("the instruction is over", net.register(0, 3), 0);
            net = new Code().stack(3, 4, place).opr(59).ldc(9).done(1);
            Check.due("sb at " + place, net.register(0, 8), 2);
            Check.due("sb popped", net.register(0, 0), 3);
            net = new Code().stack(3, 4, place).f(Code.LDNL, 0).ldc(9).done(1);
            Check.due("ldnl at " + place, net.register(0, 8), 2);
            net = new Code().stack(3, 4, place).f(Code.STNL, 0).ldc(9).done(1);
            Check.due("stnl at " + place, net.register(0, 8), 2);
        }
        TransputerNet net = new Code().stack(3, 4, 36863).f(Code.LDNL, 0).done(1);
        Check.due("the last word at its odd address", net.register(0, 8), 0);
        net = new Code().stack(3, 4, 36863).opr(1).done(1);
        Check.due("the last byte", net.register(0, 8), 0);
        Code code = new Code().ldc(0).f(Code.LDNL, 0);
        net = code.done(1);
        Check.due("a word at 0", net.register(0, 8), 2);
        Check.due("it runs yet", net.register(0, 6), 1);
        net.run(8);
        Check.due("but nothing is executed", net.register(0, 19), code.size());
    }

    private static void ownByte() {
        TransputerNet net = new TransputerNet(1);
        net.put(0, 36856, 0x45_00_00_00_00_00_00_00L);
        net.start(0, 36863, 36000, 1);
        net.run(1);
        Check.due("the last byte of the memory", net.register(0, 0), 5);
        Check.due("is no outcome", net.register(0, 8), 0);
        net.run(1);
        Check.due("the one behind it is", net.register(0, 8), 2);
        Check.due("it counts as executed", net.register(0, 19), 2);
        Check.due("I is behind it", net.register(0, 4), 36865);
        net = new TransputerNet(1);
        net.start(0, 65535, 36000, 1);
        net.run(1);
        Check.due("I turns over", net.register(0, 4), 0);
        Check.due("with the outcome", net.register(0, 8), 2);
    }

    /** A NEXT that reads beyond the memory stops the node ahead of the instruction. */
    private static void next() {
        Code code = new Code().ldc(32769).opr(57).ldc(0).opr(57).stop();
        TransputerNet net = new Code().ldc(0).opr(57).ldc(9).done(1);
        Check.due("NEXT, W", net.register(0, 5), 0);
        Check.due("NEXT, OUTCOME", net.register(0, 8), 2);
        Check.due("NEXT, no instruction", net.register(0, 19), 3);
        Check.due("NEXT, it runs", net.register(0, 6), 0);
        Check.due("NEXT, the other is shelved", net.register(0, 17), 1);
        net = code.done(0);
        Check.due("a workspace that is MINT leaves its queue empty", net.register(0, 11), 32768);
    }

    private static void clock() {
        TransputerNet net = new TransputerNet(1);
        Code code = new Code().ldc(32772).opr(60).ldc(9).opr(43);
        code.begin(net, 0, 0);
        net.run(code.size());
        Check.due("tin with a workspace at the edge", net.register(0, 8), 2);
        // one that a clock makes READY is chained behind a BACK that lies beyond the memory
        net = new TransputerNet(1);
        code = new Code().ldc(OTHER | 1).opr(57).ldc(11).opr(43);
        code.begin(net, 0, 0);
        Code.setWord(net, 0, OTHER - 2, 33300);
        Code last = new Code().ldc(36900).opr(57);
        Code low = new Code();
        while (code.size() + low.size() + last.size() < 47) {
            low.ldc(0);
        }
        low.ldc(36900).opr(57).load(net, 0, 33300);
        net.run(47);
        Check.due("ahead of the clock", net.register(0, 8), 0);
        Check.due("BACK", net.register(0, 10), 36900);
        net.run(1);
        Check.due("the clock's outcome", net.register(0, 8), 2);
        Check.due("goes ahead of NEXT", net.register(0, 5), OTHER);
        Check.due("BACK is the one that waited", net.register(0, 10), Code.W);
    }

    private static void linkBytes() {
        TransputerNet net = new TransputerNet(1);
        Code code = new Code().ldc(OTHER | 1).opr(57).stack(36862, 32768, 4).opr(11);
        net.wire(0, 0, -1, 0);
        code.begin(net, 0, 1);
        Code.setWord(net, 0, OTHER - 2, 33300);
        new Code().f(Code.J, -2).load(net, 0, 33300);
        net.run(code.size() + 13 + 13);
        Check.due("two bytes went", net.link(0, 0, 0), 2);
        Check.due("no outcome", net.register(0, 8), 0);
        int executed = net.register(0, 19);
        net.run(1);
        Check.due("the third begins", net.link(0, 0, 4), 1);
        Check.due("and is beyond", net.register(0, 8), 2);
        Check.due("ahead of the tick's instruction", net.register(0, 19), executed);
        net.run(40);
        Check.due("the link goes on", net.link(0, 0, 0), 0);
        Check.due("with 0s", net.out(2) + net.out(3), 0);
        Check.due("its process is ready, but does not run", net.register(0, 11), Code.W);

        net = new TransputerNet(1);
        code = new Code().ldc(OTHER | 1).opr(57).stack(36863, 32776, 2).opr(7);
        net.wire(0, 0, -1, 0);
        code.begin(net, 0, 1);
        Code.setWord(net, 0, OTHER - 2, 33300);
        new Code().f(Code.J, -2).load(net, 0, 33300);
        net.run(code.size());
        net.send(0x1122, 2);
        net.run(13 + 11 - 1);
        Check.due("the first came", net.peek(0, 36863), 0x22);
        Check.due("no outcome of it", net.register(0, 8), 0);
        executed = net.register(0, 19);
        net.run(1);
        Check.due("the second is beyond", net.register(0, 8), 2);
        Check.due("ahead of the tick's instruction, too", net.register(0, 19), executed);
    }

    private static void firstOutcomeStays() {
        TransputerNet net = new Code().opr(88).stack(3, 0, 0).opr(77).done(1);
        Check.due("6 alone", net.register(0, 8), 6);
        net = new Code().opr(88).stack(0, 36864, 5000).opr(74).done(1);
        Check.due("5 goes ahead of 2", net.register(0, 8), 5);
        net = new TransputerNet(1);
        net.wire(0, 0, -1, 0);
        new Code().opr(99).begin(net, 0, 1);
        net.run(5);
        Check.due("1", net.register(0, 8), 1);
        net.send(7, 1);
        net.run(40);
        Check.due("links go on when it stopped", net.link(0, 0, 2), 7);
        Check.due("1 stays", net.register(0, 8), 1);
    }
}
