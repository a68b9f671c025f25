/** The functions and the operations on the stack, each on a net of its own (promises 5, 6, 7). */
public final class OperationTest {
    private static final int M = 32768;

    public static void main(String[] args) {
        functions();
        prefixes();
        arithmetic();
        logic();
        doubleWords();
        checks();
        halting();
        moves();
        unknown();
        Check.finish();
    }

    private static void stack(String name, TransputerNet net, int a, int b, int c) {
        Check.due(name + ", A", net.register(0, 0), a);
        Check.due(name + ", B", net.register(0, 1), b);
        Check.due(name + ", C", net.register(0, 2), c);
        Check.due(name + ", O", net.register(0, 3), 0);
        Check.due(name + ", OUTCOME", net.register(0, 8), 0);
    }

    /** An operation on C, B, A, and what A, B, C and ERROR are then. */
    private static void op(int number, int c, int b, int a, int wantA, int wantB, int wantC,
            int error) {
        String name = "operation " + number + " of " + c + " " + b + " " + a;
        TransputerNet net = new Code().stack(c, b, a).opr(number).done(1);
        stack(name, net, wantA, wantB, wantC);
        Check.due(name + ", ERROR", net.register(0, 7), error);
        Check.due(name + ", PRIORITY", net.register(0, 6), 1);
    }

    /** "of B and A": B becomes C, which is 77 here. */
    private static void two(int number, int b, int a, int want, int error) {
        op(number, 77, b, a, want, 77, 77, error);
    }

    private static void functions() {
        stack("ldc", new Code().stack(1, 65535, 258).done(1), 258, 65535, 1);
        stack("ldlp", new Code().f(Code.LDLP, 3).f(Code.LDLP, -2).done(1), Code.W - 4, Code.W + 6, 0);
        stack("ldl, stl", new Code().stack(3, 4, 5).stl(7).f(Code.LDL, 7).done(1), 5, 4, 3);
        stack("stl", new Code().stack(3, 4, 5).stl(-7).done(1), 4, 3, 3);
        stack("ldnlp", new Code().stack(3, 4, 5).f(Code.LDNLP, -4).done(1), 65533, 4, 3);
        stack("stnl", new Code().stack(3, 4, 33000).f(Code.STNL, 2).done(1), 3, 3, 3);
        stack("ldnl", new Code().stack(3, 4, 33001).f(Code.STNL, 2).ldc(33000).f(Code.LDNL, 2).done(1),
                4, 3, 3);
        stack("ldnl of the first word", new Code().ldc(M).f(Code.LDNL, 0).done(1), M, 0, 0);
        stack("adc", new Code().stack(3, 4, 5).f(Code.ADC, -7).done(1), 65534, 4, 3);
        TransputerNet over = new Code().stack(3, 4, 32767).f(Code.ADC, 1).done(1);
        stack("adc over", over, M, 4, 3);
        Check.due("adc over, ERROR", over.register(0, 7), 1);
        over = new Code().stack(3, 4, M).f(Code.ADC, -1).done(1);
        stack("adc below", over, 32767, 4, 3);
        Check.due("adc below, ERROR", over.register(0, 7), 1);
        stack("eqc", new Code().stack(3, 4, 65535).f(Code.EQC, -1).done(1), 1, 4, 3);
        stack("eqc not", new Code().stack(3, 4, 5).f(Code.EQC, 4).done(1), 0, 4, 3);
        TransputerNet moved = new Code().stack(3, 4, 5).f(Code.AJW, -5).done(1);
        stack("ajw", moved, 5, 4, 3);
        Check.due("ajw, W", moved.register(0, 5), Code.W - 10);
        Code jump = new Code().stack(3, 4, 0).f(Code.CJ, 9);
        TransputerNet jumped = jump.done(1);
        stack("cj of 0", jumped, 0, 4, 3);
        Check.due("cj of 0, I", jumped.register(0, 4), Code.AT + jump.size() + 9);
        jump = new Code().stack(3, 4, 5).f(Code.CJ, 9);
        jumped = jump.done(1);
        stack("cj of 5", jumped, 4, 3, 3);
        Check.due("cj of 5, I", jumped.register(0, 4), Code.AT + jump.size());
        jump = new Code().stack(3, 4, 5).f(Code.J, -20);
        jumped = jump.done(1);
        stack("j", jumped, 5, 4, 3);
        Check.due("j, I", jumped.register(0, 4), Code.AT + jump.size() - 20);
        call();
    }

    private static void call() {
        Code code = new Code().stack(3, 4, 5).f(Code.CALL, 6);
        TransputerNet net = code.done(1);
        int behind = Code.AT + code.size();
        stack("call", net, behind, 4, 3);
        Check.due("call, I", net.register(0, 4), behind + 6);
        Check.due("call, W", net.register(0, 5), Code.W - 8);
        int[] want = {behind, 5, 4, 3};
        for (int k = 0; k < 4; k++) {
            Check.due("call, W[" + k + "]", Code.word(net, 0, Code.W - 8 + 2 * k), want[k]);
        }
        new Code().opr(32).load(net, 0, behind + 6);
        net.run(2);
        stack("ret", net, behind, 4, 3);
        Check.due("ret, I", net.register(0, 4), behind);
        Check.due("ret, W", net.register(0, 5), Code.W);
    }

    private static void prefixes() {
        TransputerNet net = new Code().raw(0x21).raw(0x22).raw(0x23).raw(0x44).done(1);
        stack("three pfix", net, 0x1234, 0, 0);
        net = new Code().raw(0x2F).raw(0x2F).raw(0x2F).raw(0x2E).raw(0x2D).done(1);
        Check.due("pfix is cut", net.register(0, 3), 0xFED0);
        net = new Code().raw(0x60).done(1);
        Check.due("nfix", net.register(0, 3), 0xFFF0);
        net = new Code().raw(0x61).raw(0x62).raw(0x43).done(1);
        stack("two nfix", net, (~((~1 << 4) | 2) << 4 | 3) & 65535, 0, 0);
        Check.due("instructions are bytes", net.register(0, 19), 3);
        Check.due("and count to the slice", net.register(0, 15), 3);
        net = new Code().raw(0x61).raw(0x62).raw(0x43).done(0);
        Check.due("of low ones alone", net.register(0, 15), 0);
    }

    private static void arithmetic() {
        op(0, 3, 4, 5, 4, 5, 3, 0);
        two(2, 65535, 5, 4, 0);
        two(2, 32767, 1, M, 0);
        two(4, 4, 5, 65535, 0);
        two(4, M, 1, 32767, 0);
        two(5, 4, 5, 9, 0);
        two(5, 32767, 1, M, 1);
        two(5, M, 65535, 32767, 1);
        two(5, M, 32767, 65535, 0);
        two(8, 300, 300, 90000 - 65536, 0);
        two(9, 5, 4, 1, 0);
        two(9, 5, 5, 0, 0);
        two(9, 65535, 1, 0, 0);
        two(9, 1, 65535, 1, 0);
        two(10, 3, 100, 106, 0);
        two(10, 32767, 100, 98, 0);
        two(12, 4, 5, 65535, 0);
        two(12, M, 1, 32767, 1);
        two(12, 0, M, M, 1);
        op(22, 3, 4, 5, 10, 3, 3, 0);
        op(22, 2, 4, 5, 9, 2, 2, 0);
        op(22, 1, 32767, 0, M, 1, 1, 1);
        op(22, 1, M, 65535, M, 1, 1, 0);
        op(56, 3, 5, 4, 0, 3, 3, 0);
        op(56, 2, 5, 4, 1, 2, 2, 0);
        op(56, 1, M, 0, 32767, 1, 1, 1);
        two(31, 7, 3, 1, 0);
        two(31, 65529, 3, 65535, 0);
        two(31, 7, 65533, 1, 0);
        two(31, 7, 0, 0, 1);
        two(31, M, 65535, 0, 0);
        two(44, 7, 2, 3, 0);
        two(44, 65529, 2, 65533, 0);
        two(44, 7, 65534, 65533, 0);
        two(44, 7, 0, 0, 1);
        two(44, M, 65535, 0, 1);
        two(44, M, 1, M, 0);
        op(52, 3, 4, 40000, 80000 - 65536, 4, 3, 0);
        op(63, 3, 4, 7, 3, 1, 4, 0);
        op(63, 3, 4, 65533, 65534, 1, 4, 0);
        op(63, 3, 4, M, 49152, 0, 4, 0);
        two(82, 65535, 5, 4, 0);
        two(83, 200, 163, 32600, 0);
        two(83, 200, 164, 32800, 1);
        two(83, 256, 65408, M, 0);
        two(83, M, 65535, M, 1);
        two(58, 5, 16, 5, 0);
        two(58, 24, 16, 65528, 0);
        two(58, 16, 16, 65520, 0);
        two(58, 65535, 128, 65279, 0);
    }

    private static void logic() {
        op(50, 3, 4, 5, 65530, 4, 3, 0);
        two(51, 0b1100, 0b1010, 0b0110, 0);
        two(70, 0b1100, 0b1010, 0b1000, 0);
        two(75, 0b1100, 0b1010, 0b1110, 0);
        two(64, M, 15, 1, 0);
        two(64, 65535, 0, 65535, 0);
        two(64, 65535, 16, 0, 0);
        two(64, 65535, 32, 0, 0);
        two(65, 65535, 15, M, 0);
        two(65, 65535, 0, 65535, 0);
        two(65, 65535, 16, 0, 0);
        two(65, 65535, 65535, 0, 0);
        two(118, 5, 65535, 21, 0);
        two(118, 65530, 0x0F07, 1, 0);
        op(119, 3, 4, 1, M, 4, 3, 0);
        op(119, 3, 4, 0x1234, 0x2C48, 4, 3, 0);
        two(120, 0b1011, 4, 0b1101, 0);
        two(120, 0xFF01, 1, 1, 0);
        two(120, 0xFF01, 0, 0, 0);
        two(120, 1, 16, M, 0);
        two(120, 65535, 17, 0, 0);
        crc();
    }

    /** The polynomial 0x1021 over the bytes '1' to '9' has a known end. */
    private static void crc() {
        int crc = 0;
        for (int digit = '1'; digit <= '9'; digit++) {
            TransputerNet net = new Code().stack(0x1021, crc, digit << 8).opr(117).done(1);
            crc = net.register(0, 0);
        }
        for (int k = 0; k < 2; k++) {
            crc = new Code().stack(0x1021, crc, 0).opr(117).done(1).register(0, 0);
        }
        Check.due("crcbyte over 123456789", crc, 0x31C3);
        crc = 0;
        int[] words = {0x3132, 0x3334, 0x3536, 0x3738};
        for (int word : words) {
            crc = new Code().stack(0x1021, crc, word).opr(116).done(1).register(0, 0);
        }
        crc = new Code().stack(0x1021, crc, 0x3900).opr(117).done(1).register(0, 0);
        crc = new Code().stack(0x1021, crc, 0).opr(116).done(1).register(0, 0);
        Check.due("crcword over 123456789", crc, 0x31C3);
        op(116, 5, M, 0, reference(5, M, 0, 16), 5, 5, 0);
        op(117, 0xA001, 0xFFFF, 0x1234, reference(0xA001, 0xFFFF, 0x1234, 8), 0xA001, 0xA001, 0);
    }

    private static int reference(int c, int b, int a, int times) {
        long both = (long) b << 16 | a;
        for (int k = 0; k < times; k++) {
            boolean top = (both >> 31 & 1) == 1;
            both = both << 1 & 0xFFFFFFFFL;
            if (top) {
                both ^= (long) c << 16;
            }
        }
        return (int) (both >> 16);
    }

    private static void doubleWords() {
        op(25, 3, 0, 1, 0, M, 31, 0);
        op(25, 3, 0, 0, 0, 0, 32, 0);
        op(25, 3, M, 5, 5, M, 0, 0);
        op(25, 3, 0x0123, 0x4567, 0xB380, 0x91A2, 7, 0);
        op(26, 1, 2, 3, 21846, 0, 1, 0);
        op(26, 3, 2, 3, 3, 2, 3, 1);
        op(26, 0, 2, 0, 0, 2, 0, 1);
        op(26, 65534, 65535, 65535, 65535, 65534, 65534, 0);
        op(29, 3, 4, 5, 5, 0, 4, 0);
        op(29, 3, 4, M, M, 65535, 4, 0);
        op(29, 3, 4, 0, 0, 0, 4, 0);
        op(26, 0, 5, 1, 5, 0, 0, 0);
        op(54, 65535, 65535, 32, 0, 0, 65535, 0);
        op(49, 65535, 65535, 65535, 0, 65535, 65535, 0);
        op(49, 3, 256, 257, 259, 1, 3, 0);
        op(53, 0x1234, 0x5678, 4, 0x4567, 0x0123, 0x1234, 0);
        op(53, M, 0, 31, 1, 0, M, 0);
        op(53, 65535, 65535, 32, 0, 0, 65535, 0);
        op(54, 0x1234, 0x5678, 4, 0x6780, 0x2345, 0x1234, 0);
        op(54, 0, 1, 31, 0, M, 0, 0);
        op(54, 65535, 65535, 33, 0, 0, 65535, 0);
        op(54, 3, 4, 0, 4, 3, 3, 0);
        op(55, 1, 65535, 65535, 65535, 1, 1, 0);
        op(55, 2, 4, 5, 9, 0, 2, 0);
        op(79, 1, 4, 4, 65535, 1, 1, 0);
        op(79, 0, 4, 4, 0, 0, 0, 0);
        op(79, 0, 1, 65535, 2, 1, 0, 0);
    }

    private static void checks() {
        op(16, 3, 4, 5, 5, 4, 3, 1);
        op(19, 3, 4, 5, 4, 3, 3, 0);
        op(19, 3, 5, 5, 5, 3, 3, 1);
        op(19, 3, 65535, 5, 65535, 3, 3, 1);
        op(41, 3, 4, 5, 1, 5, 4, 0);
        op(76, 3, 0, 5, 5, 3, 3, 0);
        op(76, 3, 0, 0, 0, 3, 3, 0);
        op(76, 3, 65535, 5, 5, 3, 3, 1);
        op(76, 3, 65535, M, M, 3, 3, 0);
        op(76, 3, 0, M, M, 3, 3, 1);
        op(77, 3, 0, 5, 0, 3, 3, 1);
        op(77, 3, 5, 5, 5, 3, 3, 0);
        op(77, 3, 6, 5, 6, 3, 3, 1);
        op(86, 3, 127, 128, 127, 3, 3, 0);
        op(86, 3, 128, 128, 128, 3, 3, 1);
        op(86, 3, 65408, 128, 65408, 3, 3, 0);
        op(86, 3, 65407, 128, 65407, 3, 3, 1);
        op(86, 3, M, M, M, 3, 3, 1);
        op(86, 3, 0, M, 0, 3, 3, 1);
        op(85, 3, 4, 5, 5, 4, 3, 0);
        TransputerNet net = new Code().opr(16, 85).done(1);
        Check.due("stoperr of an error: none runs", net.register(0, 6), 2);
        net = new Code().stack(3, 4, 5).opr(16, 41).done(1);
        stack("testerr of an error", net, 0, 5, 4);
        Check.due("testerr clears it", net.register(0, 7), 0);
    }

    private static void halting() {
        TransputerNet net = new Code().opr(89, 88, 89, 87, 89).done(1);
        stack("halt", net, 0, 1, 0);
        net = new Code().opr(88).opr(16).ldc(5).done(1);
        Check.due("halt on error", net.register(0, 8), 6);
        Check.due("nothing behind it", net.register(0, 0), 0);
        net = new Code().opr(16).opr(88).opr(16).ldc(5).done(1);
        Check.due("an error that was set already", net.register(0, 8), 0);
        net = new Code().opr(88).ldc(36864).ldc(7).opr(77).done(1);
        Check.due("ccnt1 halts", net.register(0, 8), 6);
        net = new Code().opr(88).ldc(1).ldc(0).opr(44).ldc(5).done(1);
        Check.due("div by 0 halts", net.register(0, 8), 6);
        Check.due("behind its result", net.register(0, 0), 0);
        Check.due("executed by then", net.register(0, 19), new Code().opr(88).size() + 2 + 2);
    }

    private static void moves() {
        TransputerNet net = new Code().stack(3, 4, 0x1FF).stl(0).f(Code.LDLP, 0).opr(1).done(1);
        stack("lb", net, 255, 4, 3);
        net = new Code().stack(3, 4, 0x1FF).stl(0).f(Code.LDLP, 0).f(Code.ADC, 1).opr(1).done(1);
        stack("lb of an odd one", net, 1, 4, 3);
        net = new Code().stack(3, 0x1234, Code.W + 1).opr(59).done(1);
        stack("sb", net, 3, 3, 3);
        Check.due("sb wrote", Code.word(net, 0, Code.W), 0x3400);
        Code code = new Code().stack(3, 4, 5).opr(6);
        net = code.done(1);
        stack("gcall", net, Code.AT + code.size(), 4, 3);
        Check.due("gcall, I", net.register(0, 4), 5);
        code = new Code().stack(3, 4, 5).opr(27);
        net = code.done(1);
        stack("ldpi", net, Code.AT + code.size() + 5, 4, 3);
        code = new Code().stack(3, 4, 65535).opr(27);
        stack("ldpi is cut", code.done(1), Code.AT + code.size() - 1, 4, 3);
        stack("ldpri low", new Code().stack(3, 4, 5).opr(30).done(1), 1, 5, 4);
        stack("ldpri high", new Code().stack(3, 4, 5).opr(30).done(0), 0, 5, 4);
        net = new Code().stack(3, 4, 34001).opr(60).done(1);
        stack("gajw", net, Code.W, 4, 3);
        Check.due("gajw, W", net.register(0, 5), 34000);
        stack("mint", new Code().stack(3, 4, 5).opr(66).done(1), M, 5, 4);
        stack("dup", new Code().stack(3, 4, 5).opr(90).done(1), 5, 5, 4);
        moveOfBytes();
        loopEnd();
    }

    private static void moveOfBytes() {
        TransputerNet net = new TransputerNet(1);
        net.put(0, 34000, 0x0807060504030201L);
        Code code = new Code().stack(34000, 34002, 9).opr(74).ldc(5);
        code.begin(net, 0, 1);
        net.run(code.size() - 1);
        stack("move", net, 34000, 34000, 34000);
        int[] want = {1, 2, 1, 2, 1, 2, 1, 2, 1, 2, 1, 0};
        for (int k = 0; k < want.length; k++) {
            Check.due("moved one by one, " + k, net.peek(0, 34000 + k), want[k]);
        }
        Check.due("busy for 9 / 4", net.register(0, 20), 2);
        net.run(1);
        Check.due("busy yet", net.register(0, 20), 1);
        Check.due("nothing executed", net.register(0, 0), 34000);
        net.run(1);
        Check.due("busy no more", net.register(0, 20), 0);
        Check.due("nothing executed in that tick", net.register(0, 0), 34000);
        net.run(1);
        Check.due("it goes on", net.register(0, 0), 5);

        code = new Code().stack(32768, 32768, 4096).opr(74);
        net = code.done(1);
        Check.due("4096 are moved", net.register(0, 8), 0);
        Check.due("and take their time", net.register(0, 20), 1024);
        net = new Code().stack(3, 34000, 4097).opr(74).done(1);
        Check.due("4097 are too many", net.register(0, 8), 5);
        Check.due("A stays", net.register(0, 0), 4097);
        Check.due("B stays", net.register(0, 1), 34000);
        Check.due("C stays", net.register(0, 2), 3);
        Check.due("O is 0", net.register(0, 3), 0);
        Check.due("not busy", net.register(0, 20), 0);
        Check.due("nor beyond the memory", net.peek(0, 34000), 0);
        net = new Code().stack(34000, 36860, 40).opr(74).done(1);
        Check.due("a move beyond the memory", net.register(0, 8), 2);
        Check.due("is busy all the same", net.register(0, 20), 10);
        net.run(4);
        Check.due("also when it stopped", net.register(0, 20), 6);
    }

    private static void loopEnd() {
        Code code = new Code().ldc(3).stl(2).ldc(10).stl(1);
        int top = code.size();
        int length = 7;
        code.ldl(0).f(Code.ADC, 7).stl(0).f(Code.LDLP, 1).ldc(length).opr(33);
        TransputerNet net = new TransputerNet(1);
        code.begin(net, 0, 1);
        net.run(top + 3 * length);
        Check.due("three rounds", Code.word(net, 0, Code.W), 21);
        Check.due("the index", Code.word(net, 0, Code.W + 2), 12);
        Check.due("none left", Code.word(net, 0, Code.W + 4), 0);
        Check.due("I behind the loop", net.register(0, 4), Code.AT + top + length);
        net = new Code().ldc(M).stl(2).stack(3, Code.W + 2, 0).opr(33).done(1);
        Check.due("-32768 less 1 is above 0", Code.word(net, 0, Code.W + 2), 1);
        net = new Code().ldc(0).stl(2).stack(3, Code.W + 2, 0).opr(33).done(1);
        Check.due("0 less 1 is not", Code.word(net, 0, Code.W + 2), 0);
        stack("lend", net, 3, 3, 3);
        Check.due("but is counted", Code.word(net, 0, Code.W + 4), 65535);
    }

    private static void unknown() {
        int known = 0;
        for (int number = 0; number < 300; number++) {
            Code code = new Code().stack(0, 36200, 36100).opr(number);
            TransputerNet net = code.done(1);
            if (net.register(0, 8) != 1) {
                known++;
                continue;
            }
            Check.due("the number of " + number + " stays", net.register(0, 3), number);
            Check.due("I is behind " + number, net.register(0, 4), Code.AT + code.size());
            Check.due("A stays at " + number, net.register(0, 0), 36100);
            net.run(5);
            Check.due("nothing is executed behind " + number, net.register(0, 19), code.size());
        }
        Check.due("how many operations there are", known, 86);
        int[] missing = {17, 20, 35, 36, 37, 38, 39, 40, 42, 45, 91, 115, 121, 256};
        for (int number : missing) {
            Check.due("operation " + number, new Code().opr(number).done(1).register(0, 8), 1);
        }
        Check.due("operation 65535", new Code().opr(65535).done(1).register(0, 8), 1);
    }
}
