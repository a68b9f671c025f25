/** Empty queues, chains that end early, slices at their bound, NEXT beyond the memory (part 1). */
public final class QueueEdgeTest {
    private static final int OTHER = 35000;
    private static final int THIRD = 34800;
    private static final int MINT = Code.MINT;
    private static final int LOW_FRONT = 11;
    private static final int HIGH_FRONT = 9;

    public static void main(String[] args) {
        noneAtAll();
        readyToAnEmptyOne();
        readyToOneThatWasEmptied();
        readyOfMint();
        chainThatEndsEarly();
        lastOneLeaves();
        emptyByHand();
        noneToBeShelvedFor();
        workspacesAtTheEdge();
        chainBeyond();
        sliceOf255();
        sliceOfLastRound();
        sliceOfAHighOne();
        Check.finish();
    }

    private static void queue(String name, TransputerNet net, int what, int front, int back) {
        Check.due(name + ", FRONT", net.register(0, what), front);
        Check.due(name + ", BACK", net.register(0, what + 1), back);
    }

    private static TransputerNet placed(Code code, int priority) {
        TransputerNet net = new TransputerNet(1);
        code.begin(net, 0, priority);
        Code.setWord(net, 0, OTHER - 2, 33400);
        Code.setWord(net, 0, THIRD - 2, 33400);
        new Code().stop().load(net, 0, 33400);
        return net;
    }

    /** Both QUEUES are empty and none is SHELVED: none RUNS, and nothing is executed. */
    private static void noneAtAll() {
        TransputerNet net = new Code().stack(7, 8, 9).stop().done(1);
        int executed = net.register(0, 19);
        net.run(1000);
        Check.due("none runs", net.register(0, 6), 2);
        Check.due("nothing is executed", net.register(0, 19), executed);
        Check.due("A is what was left", net.register(0, 0), 9);
        Check.due("B is what was left", net.register(0, 1), 8);
        Check.due("C is what was left", net.register(0, 2), 7);
        Check.due("I is what was left", net.register(0, 4), Code.AT + executed);
        Check.due("W is what was left", net.register(0, 5), Code.W);
        Check.due("SLICE is what was left", net.register(0, 15), executed);
        Check.due("no outcome", net.register(0, 8), 0);
        queue("the low ones", net, LOW_FRONT, MINT, MINT);
        queue("the high ones", net, HIGH_FRONT, MINT, MINT);
    }

    /** "if that is empty (FRONT is MINT), FRONT and BACK of the QUEUE become its WORKSPACE". */
    private static void readyToAnEmptyOne() {
        for (int priority = 0; priority <= 1; priority++) {
            Code code = new Code().ldc(OTHER | priority).opr(57);
            TransputerNet net = placed(code, 0);
            net.run(code.size());
            queue("the first", net, HIGH_FRONT + 2 * priority, OTHER, OTHER);
            queue("the other queue", net, LOW_FRONT - 2 * priority, MINT, MINT);
            Check.due("nothing is chained", Code.word(net, 0, OTHER - 4), 0);
        }
    }

    /** BACK is the one that left; nothing is chained to that. */
    private static void readyToOneThatWasEmptied() {
        Code code = new Code().ldc(OTHER).opr(57);
        int before = code.size();
        code.ldc(THIRD).opr(57);
        TransputerNet net = placed(code, 1);
        net.run(before + new Code().stop().size());
        queue("emptied", net, HIGH_FRONT, MINT, OTHER);
        net.run(code.size() - before);
        queue("filled again", net, HIGH_FRONT, THIRD, THIRD);
        Check.due("nothing is chained", Code.word(net, 0, OTHER - 4), 0);
    }

    /** A WORKSPACE that is MINT cannot be told from an empty QUEUE. */
    private static void readyOfMint() {
        Code code = new Code().ldc(MINT).opr(57).ldc(OTHER).opr(57);
        TransputerNet net = placed(code, 0);
        net.run(code.size());
        queue("the one behind it is the first", net, HIGH_FRONT, OTHER, OTHER);
        Check.due("no outcome", net.register(0, 8), 0);
    }

    /** "else FRONT becomes the word at FRONT - 4": if that is MINT, the QUEUE is empty. */
    private static void chainThatEndsEarly() {
        Code code = new Code().ldc(OTHER).opr(28).ldc(THIRD).opr(23).stop();
        TransputerNet net = placed(code, 1);
        Code.setWord(net, 0, OTHER - 4, MINT);
        net.run(code.size() + 1);
        Check.due("the first runs", net.register(0, 5), OTHER);
        queue("the chain ended", net, LOW_FRONT, MINT, THIRD);
        net.run(20);
        Check.due("none runs behind it", net.register(0, 6), 2);
        Check.due("the last never did", net.register(0, 5), OTHER);
    }

    /** "if it is BACK, FRONT becomes MINT": the word of the chain is not looked at. */
    private static void lastOneLeaves() {
        Code code = new Code().ldc(OTHER | 1).opr(57).stop();
        TransputerNet net = placed(code, 1);
        Code.setWord(net, 0, OTHER - 4, THIRD);
        net.run(code.size() + 1);
        queue("it was the last", net, LOW_FRONT, MINT, OTHER);
        net.run(20);
        Check.due("the other did not run", net.register(0, 5), OTHER);
    }

    private static void emptyByHand() {
        Code code = new Code().ldc(OTHER | 1).opr(57).opr(66).opr(28).stop();
        TransputerNet net = placed(code, 1);
        net.run(code.size() + 20);
        queue("FRONT was made MINT", net, LOW_FRONT, MINT, OTHER);
        Check.due("so none runs", net.register(0, 5), Code.W);
    }

    /** A low one is SHELVED only if QUEUE 0 isn't empty. */
    private static void noneToBeShelvedFor() {
        Code code = new Code().ldc(OTHER | 1).opr(57).opr(66).opr(24).ldc(5).ldc(6);
        TransputerNet net = placed(code, 1);
        net.run(code.size());
        Check.due("it runs on", net.register(0, 5), Code.W);
        Check.due("none is shelved", net.register(0, 17), 0);
        Check.due("its slice", net.register(0, 15), code.size());
    }

    /** W[-1] is the word right below W: 36864 and 32770 have it within the memory, others not. */
    private static void workspacesAtTheEdge() {
        int[][] places = {{36864, 0}, {32770, 0}, {36866, 2}, {32768 - 2, 2}, {0, 2}, {65534, 2}};
        for (int[] p : places) {
            Code code = new Code().ldc(p[0]).opr(57).ldc(5);
            TransputerNet net = placed(code, 1);
            Code.setWord(net, 0, 36862, 33400);
            net.run(code.size() - 1);
            Check.due("ahead of NEXT to " + p[0], net.register(0, 8), 0);
            net.run(1);
            Check.due("NEXT to " + p[0], net.register(0, 8), p[1]);
            Check.due("its W", net.register(0, 5), p[0]);
            Check.due("its I", net.register(0, 4),
                    p[0] == 36864 ? 33401 : p[1] == 2 ? 0 : MINT + 1);
            Check.due("executed", net.register(0, 19), code.size() - p[1] / 2);
        }
    }

    /** READY chains at BACK - 4, and a first one that isn't the last is read at FRONT - 4. */
    private static void chainBeyond() {
        int[][] places = {{36866, 0}, {32772, 0}, {36868, 2}, {32770, 2}, {2, 2}};
        for (int[] p : places) {
            Code code = new Code().ldc(p[0]).opr(57).ldc(OTHER).opr(57);
            TransputerNet net = placed(code, 0);
            net.run(code.size());
            Check.due("chained at " + p[0], net.register(0, 8), p[1]);
            queue("chained at " + p[0], net, HIGH_FRONT, p[0], OTHER);
        }
        Code code = new Code().ldc(32770).opr(28).ldc(OTHER).opr(23).stop();
        TransputerNet net = placed(code, 1);
        net.run(code.size());
        Check.due("ahead of NEXT", net.register(0, 8), 0);
        net.run(1);
        Check.due("NEXT reads the chain at 32766", net.register(0, 8), 2);
        queue("as 0", net, LOW_FRONT, 0, OTHER);
        Check.due("the first has its W", net.register(0, 5), 32770);
    }

    private static Code filled(int instructions) {
        Code code = new Code();
        while (code.size() < instructions) {
            code.ldc(0);
        }
        return code;
    }

    /** "whose SLICE is 256 or more": the jump itself counts, ahead of what it does. */
    private static void sliceOf255() {
        int[][] counts = {{254, 1}, {255, 2}, {256, 2}, {300, 2}};
        for (int[] p : counts) {
            Code code = filled(p[0]).f(Code.J, 0).ldc(0);
            TransputerNet net = placed(code, 1);
            net.run(code.size() - 1);
            Check.due("SLICE", net.register(0, 15), p[0] + 1);
            Check.due("who runs behind " + (p[0] + 1), net.register(0, 6), p[1]);
            Check.due("READY", net.register(0, LOW_FRONT), p[1] == 2 ? Code.W : MINT);
            net.run(1);
            Check.due("it goes on", net.register(0, 6), 1);
            Check.due("with its SLICE", net.register(0, 15), p[1] == 2 ? 1 : p[0] + 2);
        }
    }

    /** lend is SLICED where it jumps alone. */
    private static void sliceOfLastRound() {
        for (int left = 1; left <= 2; left++) {
            Code code = filled(300).ldc(left).stl(2).f(Code.LDLP, 1).ldc(0).opr(33);
            TransputerNet net = placed(code, 1);
            net.run(code.size());
            Check.due("lend with " + left + " left", net.register(0, 6), left == 1 ? 1 : 2);
        }
    }

    private static void sliceOfAHighOne() {
        Code code = filled(300).f(Code.J, 0);
        TransputerNet net = placed(code, 0);
        net.run(code.size());
        Check.due("a high one has no SLICE", net.register(0, 15), 0);
        Check.due("and runs on", net.register(0, 6), 0);
    }
}
