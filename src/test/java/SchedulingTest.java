/** Part 1 of the document's terms: queues, waiting, shelving, slices (promises 5, 6, 7). */
public final class SchedulingTest {
    private static final int OTHER = 35000;
    private static final int THIRD = 34800;
    private static final int MINT = Code.MINT;

    public static void main(String[] args) {
        readyAndWait();
        highOnesGoAhead();
        shelving();
        shelvedBetweenPrefixes();
        slices();
        sliceOfLend();
        startpAndEndp();
        queueOperations();
        oddFront();
        Check.finish();
    }

    private static void queue(String name, TransputerNet net, int what, int front, int back) {
        Check.due(name + ", FRONT", net.register(0, what), front);
        Check.due(name + ", BACK", net.register(0, what + 1), back);
    }

    private static void place(TransputerNet net, int workspace, int i) {
        Code.setWord(net, 0, workspace - 2, i);
    }

    private static void readyAndWait() {
        Code code = new Code().stack(1, 2, OTHER | 1).opr(57).ldc(THIRD | 1).opr(57);
        int first = code.size();
        code.stop();
        TransputerNet net = new TransputerNet(1);
        code.begin(net, 0, 1);
        place(net, OTHER, 33000);
        place(net, THIRD, 33100);
        new Code().ldc(8).stop().load(net, 0, 33000);
        net.run(first);
        queue("two are ready", net, 11, OTHER, THIRD);
        queue("none of the high ones", net, 9, MINT, MINT);
        Check.due("chained through memory", Code.word(net, 0, OTHER - 4), THIRD);
        Check.due("runp pops", net.register(0, 0), 2);
        net.run(2);
        Check.due("stopp: none runs", net.register(0, 6), 2);
        Check.due("W[-1] is I", Code.word(net, 0, Code.W - 2), Code.AT + first + 2);
        Check.due("W is left", net.register(0, 5), Code.W);
        net.run(1);
        Check.due("the first runs", net.register(0, 5), OTHER);
        Check.due("at its I", net.register(0, 4), 33001);
        Check.due("its slice is anew", net.register(0, 15), 1);
        Check.due("A", net.register(0, 0), 8);
        Check.due("B is as it was", net.register(0, 1), 2);
        queue("one is left", net, 11, THIRD, THIRD);
        net.run(3);
        Check.due("the second runs", net.register(0, 5), THIRD);
        queue("none is left", net, 11, MINT, THIRD);
    }

    private static void highOnesGoAhead() {
        Code code = new Code().ldc(OTHER | 1).opr(57).ldc(THIRD).opr(57);
        int made = code.size();
        code.stop();
        TransputerNet net = new TransputerNet(1);
        code.begin(net, 0, 0);
        place(net, OTHER, 33000);
        place(net, THIRD, 33100);
        new Code().opr(30).stop().load(net, 0, 33100);
        net.run(made);
        queue("the low one waits", net, 11, OTHER, OTHER);
        queue("the high one waits", net, 9, THIRD, THIRD);
        Check.due("a high one is not put off", net.register(0, 5), Code.W);
        net.run(2 + 2);
        Check.due("the high one is first", net.register(0, 5), THIRD);
        Check.due("ldpri", net.register(0, 0), 0);
        Check.due("it has no slice", net.register(0, 15), 0);
        net.run(3);
        Check.due("then the low one", net.register(0, 5), OTHER);
        Check.due("PRIORITY", net.register(0, 6), 1);
    }

    private static void shelving() {
        Code code = new Code().stack(7, 8, OTHER).opr(57).ldc(5);
        int made = code.size() - 1;
        TransputerNet net = new TransputerNet(1);
        code.begin(net, 0, 1);
        place(net, OTHER, 33000);
        new Code().ldc(1).ldc(2).ldc(3).stop().load(net, 0, 33000);
        net.run(made);
        Check.due("not shelved yet", net.register(0, 17), 0);
        Check.due("the low one runs yet", net.register(0, 6), 1);
        net.run(1);
        Check.due("shelved", net.register(0, 17), 1);
        Check.due("the high one runs", net.register(0, 6), 0);
        Check.due("its W", net.register(0, 5), OTHER);
        Check.due("it found B of the other", net.register(0, 1), 8);
        Check.due("SLICE of a high one", net.register(0, 15), 0);
        net.run(2 + 2);
        Check.due("the high one waits", net.register(0, 6), 2);
        Check.due("still shelved", net.register(0, 17), 1);
        net.run(1);
        Check.due("it is back", net.register(0, 17), 0);
        Check.due("with A", net.register(0, 0), 5);
        Check.due("with B", net.register(0, 1), 8);
        Check.due("with C", net.register(0, 2), 7);
        Check.due("with W", net.register(0, 5), Code.W);
        Check.due("with I", net.register(0, 4), Code.AT + made + 1);
        Check.due("with its SLICE", net.register(0, 15), made + 1);
    }

    /** A clock makes the high one ready while O holds a part of an operand. */
    private static void shelvedBetweenPrefixes() {
        for (int phase = 0; phase < 4; phase++) {
            TransputerNet net = new TransputerNet(1);
            Code code = new Code().ldc(OTHER).opr(57);
            for (int k = 0; k < phase; k++) {
                code.ldc(0);
            }
            for (int k = 0; k < 20; k++) {
                code.raw(0x21).raw(0x21).raw(0x81);
            }
            code.stop().begin(net, 0, 1);
            place(net, OTHER, 33000);
            new Code().ldc(8).opr(43).raw(0x4F).stl(0).stop().load(net, 0, 33000);
            net.run(code.size() + 11);
            Check.due("all is executed", net.register(0, 6), 2);
            Check.due("O of the high one began as 0", Code.word(net, 0, OTHER), 15);
            Check.due("O of the low one came back", net.register(0, 0), 20 * 0x111);
        }
    }

    private static void slices() {
        TransputerNet net = new TransputerNet(1);
        Code code = new Code().ldc(OTHER | 1).opr(57);
        int loop = code.size();
        code.f(Code.J, -2);
        code.begin(net, 0, 1);
        place(net, OTHER, 33000);
        new Code().f(Code.J, -2).load(net, 0, 33000);
        net.run(255);
        Check.due("its slice", net.register(0, 15), 255);
        Check.due("it runs yet", net.register(0, 5), Code.W);
        while (net.register(0, 6) == 1 && net.register(0, 15) < 300) {
            net.run(1);
        }
        Check.due("it left at a jump", net.register(0, 15), 256 + (256 - loop) % 2);
        Check.due("its I is the jump's end", Code.word(net, 0, Code.W - 2), Code.AT + loop);
        queue("it is behind the other", net, 11, OTHER, Code.W);
        Check.due("O is 0", net.register(0, 3), 0);
        net.run(1);
        Check.due("the other runs", net.register(0, 5), OTHER);
        Check.due("with a new slice", net.register(0, 15), 1);
        queue("the first waits", net, 11, Code.W, Code.W);

        TransputerNet high = new TransputerNet(1);
        new Code().f(Code.J, -2).begin(high, 0, 0);
        high.run(600);
        Check.due("a high one has no slice", high.register(0, 6), 0);
        TransputerNet calm = new TransputerNet(1);
        Code calls = new Code();
        while (calls.size() < 298) {
            calls.ldc(0);
        }
        calls.f(Code.CJ, 0).f(Code.CALL, 0).f(Code.J, 0).begin(calm, 0, 1);
        calm.run(300);
        Check.due("a slice ends at no other instruction", calm.register(0, 6), 1);
        calm.run(1);
        Check.due("but at a jump", calm.register(0, 6), 2);
    }

    private static void sliceOfLend() {
        TransputerNet net = new TransputerNet(1);
        Code code = new Code().ldc(1000).stl(2);
        int top = code.size();
        code.f(Code.LDLP, 1).ldc(4).opr(33);
        code.begin(net, 0, 1);
        net.run(top + 4 * 62);
        Check.due("it runs below 256", net.register(0, 6), 1);
        net.run(4);
        Check.due("lend is SLICED", net.register(0, 6), 2);
        Check.due("with I at the top", Code.word(net, 0, Code.W - 2), Code.AT + top);
        queue("and it is ready", net, 11, Code.W, Code.W);
        net.run(1);
        Check.due("alone it goes on", net.register(0, 6), 1);
    }

    private static void startpAndEndp() {
        TransputerNet net = new TransputerNet(1);
        Code code = new Code().ldc(2).stl(1).stack(9, 40, OTHER + 1).opr(13);
        int made = code.size();
        code.f(Code.LDLP, 0).opr(3);
        code.begin(net, 0, 0);
        net.put(0, Code.W, 33333 | 2L << 16);
        net.run(made);
        Check.due("startp: I + B", Code.word(net, 0, OTHER - 2), Code.AT + made + 40);
        queue("startp: ready", net, 9, OTHER, OTHER);
        Check.due("startp pops", net.register(0, 0), 9);
        net.run(2);
        Check.due("endp: none runs", net.register(0, 6), 2);
        Check.due("endp: one less", Code.word(net, 0, Code.W + 2), 1);
        Check.due("endp: no I is kept", Code.word(net, 0, Code.W - 2), 0);
        new Code().ldc(Code.W + 1).opr(3).load(net, 0, Code.AT + made + 40);
        Code.setWord(net, 0, Code.W, 33333);
        net.run(5);
        Check.due("endp of the last: W", net.register(0, 5), Code.W);
        Check.due("endp of the last: I", net.register(0, 4), 33333);
        Check.due("endp of the last: it goes on", net.register(0, 6), 0);
        Check.due("endp of the last: A stays", net.register(0, 0), Code.W + 1);
    }

    private static void queueOperations() {
        TransputerNet net = new Code().stack(7, 8, OTHER + 1).opr(28).done(1);
        queue("stlf", net, 11, OTHER, MINT);
        Check.due("stlf pops", net.register(0, 0), 8);
        net = new Code().stack(7, 8, OTHER + 1).opr(23).done(1);
        queue("stlb", net, 11, MINT, OTHER);
        Check.due("stlb pops", net.register(0, 0), 8);
        net = new Code().stack(7, 8, OTHER + 1).opr(24).done(0);
        queue("sthf", net, 9, OTHER, MINT);
        Check.due("sthf pops", net.register(0, 0), 8);
        net = new Code().stack(7, 8, OTHER + 1).opr(80).done(0);
        queue("sthb", net, 9, MINT, OTHER);
        Check.due("sthb pops", net.register(0, 0), 8);
        net = new Code().ldc(OTHER).opr(28).ldc(THIRD).opr(23).stack(7, 8, 34000).opr(61).done(0);
        Check.due("savel, FRONT", Code.word(net, 0, 34000), OTHER);
        Check.due("savel, BACK", Code.word(net, 0, 34002), THIRD);
        Check.due("savel pops", net.register(0, 0), 8);
        net = new Code().ldc(OTHER).opr(24).ldc(THIRD).opr(80).stack(7, 8, 34000).opr(62).done(0);
        Check.due("saveh, FRONT", Code.word(net, 0, 34000), OTHER);
        Check.due("saveh, BACK", Code.word(net, 0, 34002), THIRD);
    }

    /** What a queue's chain says is a workspace, whose lowest bit is left out in W alone. */
    private static void oddFront() {
        TransputerNet net = new TransputerNet(1);
        Code code = new Code().ldc(OTHER).opr(28).ldc(34000).opr(23).stop();
        code.begin(net, 0, 0);
        Code.setWord(net, 0, OTHER - 4, THIRD + 1);
        Code.setWord(net, 0, THIRD - 4, 34600);
        place(net, OTHER, 33000);
        place(net, THIRD, 33100);
        new Code().stop().load(net, 0, 33000);
        net.run(code.size() + 1);
        queue("the chain's word", net, 11, THIRD + 1, 34000);
        net.run(2);
        Check.due("W is even", net.register(0, 5), THIRD);
        Check.due("I of W[-1]", net.register(0, 4), 33101);
        queue("the chain goes on from there", net, 11, 34600, 34000);
    }
}
