/** Words that turn over, numbers that are too small or too large (parts 0 and 2 of the terms). */
public final class WordEdgeTest {
    private static final int M = 32768;
    private static final int OTHER = 35000;

    public static void main(String[] args) {
        addressesTurnOver();
        sumsAreCut();
        productsAreCut();
        jumpsTurnOver();
        workspaceTurnsOver();
        workspaceIsEven();
        operandIsCut();
        countOfEndp();
        countOfLend();
        oddBlocks();
        indexOfLend();
        startOfAProcess();
        checkedSums();
        checkedProducts();
        checks();
        greater();
        divisions();
        longDivision();
        shifts();
        doubleWords();
        bits();
        unknownOperations();
        errorAndHalt();
        Check.finish();
    }

    private static void stack(String name, TransputerNet net, int a, int b, int c) {
        Check.due(name + ", A", net.register(0, 0), a);
        Check.due(name + ", B", net.register(0, 1), b);
        Check.due(name + ", C", net.register(0, 2), c);
        Check.due(name + ", OUTCOME", net.register(0, 8), 0);
    }

    private static void op(int number, int[] cba, int[] want, int error) {
        String name = "operation " + number + " of " + cba[0] + " " + cba[1] + " " + cba[2];
        TransputerNet net = new Code().stack(cba[0], cba[1], cba[2]).opr(number).done(1);
        stack(name, net, want[0], want[1], want[2]);
        Check.due(name + ", ERROR", net.register(0, 7), error);
    }

    /** "of B and A": C, 77 here, comes down. */
    private static void two(int number, int b, int a, int want, int error) {
        op(number, new int[] {77, b, a}, new int[] {want, 77, 77}, error);
    }

    /** A POP of A, with an ERROR or without. */
    private static void check(int number, int b, int a, int error) {
        two(number, b, a, b, error);
    }

    /** A + 2 O, W + 2 O and W[k] are cut to 16 bits, so they come round into the memory. */
    private static void addressesTurnOver() {
        stack("ldlp", new Code().f(Code.LDLP, 16384).done(1), Code.W - M, 0, 0);
        stack("ldlp by one less", new Code().f(Code.LDLP, 32767).done(1), Code.W - 2, 0, 0);
        stack("ldnlp", new Code().stack(3, 4, 65535).f(Code.LDNLP, 1).done(1), 1, 4, 3);
        stack("ldnlp below 0", new Code().stack(3, 4, 0).f(Code.LDNLP, -1).done(1), 65534, 4, 3);
        stack("ldnl", new Code().stack(3, 4, 65534).f(Code.LDNL, 16386).done(1), M, 4, 3);
        TransputerNet net = new Code().stack(3, 0x1234, 65534).f(Code.STNL, 17001).done(1);
        stack("stnl", net, 3, 3, 3);
        Check.due("stnl came round", Code.word(net, 0, 34000), 0x1234);
        net = new Code().ldc(0x4321).stl(31768).done(1);
        Check.due("stl came round", Code.word(net, 0, 34000), 0x4321);
        stack("ldl", new Code().f(Code.LDL, 31154).done(1), M, 0, 0);
    }

    /** "Sums .. are cut to 16 bits", without an ERROR. */
    private static void sumsAreCut() {
        two(2, 65535, 65535, 65534, 0);
        two(2, M, M, 0, 0);
        two(4, 0, 1, 65535, 0);
        two(4, 0, 65535, 1, 0);
        two(10, M, 5, 5, 0);
        two(10, 65535, 1, 65535, 0);
        two(82, 65535, 1, 0, 0);
        two(118, 65535, 1, 0, 0);
        two(118, 65535, 65535, 15, 0);
        two(58, 65535, M, 65535, 0);
        two(58, 0, 0, 0, 0);
        op(50, new int[] {3, 4, 0}, new int[] {65535, 4, 3}, 0);
        op(50, new int[] {3, 4, 65535}, new int[] {0, 4, 3}, 0);
    }

    private static void productsAreCut() {
        two(8, 65535, 65535, 1, 0);
        two(8, M, 2, 0, 0);
        two(8, 256, 256, 0, 0);
        op(52, new int[] {3, 4, M}, new int[] {0, 4, 3}, 0);
        op(52, new int[] {3, 4, 65535}, new int[] {65534, 4, 3}, 0);
    }

    private static void jumped(String name, Code code, int distance) {
        TransputerNet net = code.done(1);
        Check.due(name, net.register(0, 4), Code.AT + code.size() + distance & 65535);
    }

    /** "I + O", "I - A" and the like are words, too. */
    private static void jumpsTurnOver() {
        jumped("j", new Code().f(Code.J, 32732), 32732);
        jumped("j back over 0", new Code().f(Code.J, M), M);
        jumped("cj", new Code().ldc(0).f(Code.CJ, 32767), 32767);
        jumped("call", new Code().f(Code.CALL, 32767), 32767);
        jumped("lend", new Code().ldc(9).stl(2).f(Code.LDLP, 1).ldc(40000).opr(33), -40000);
        jumped("altend", new Code().ldc(40000).stl(0).opr(69), 40000);
        stack("ldpi", new Code().ldc(M).opr(27).done(1),
                Code.AT + new Code().ldc(M).opr(27).size() - M, 0, 0);
        TransputerNet net = new TransputerNet(1);
        net.start(0, 65535, Code.W, 1);
        net.run(1);
        Check.due("I behind 65535", net.register(0, 4), 0);
    }

    /** W + 2 O, W - 8, W + 8 are cut. */
    private static void workspaceTurnsOver() {
        Check.due("ajw up", new Code().ldc(65534).opr(60).f(Code.AJW, 1).done(1).register(0, 5), 0);
        Check.due("ajw down", new Code().ldc(0).opr(60).f(Code.AJW, -1).done(1).register(0, 5),
                65534);
        TransputerNet net = new Code().ldc(6).opr(60).f(Code.CALL, 0).done(1);
        Check.due("call", net.register(0, 5), 65534);
        Check.due("call beyond the memory", net.register(0, 8), 2);
        net = new Code().ldc(65530).opr(60).opr(32).done(1);
        Check.due("ret", net.register(0, 5), 2);
        Check.due("ret, I", net.register(0, 4), 0);
        Check.due("ret beyond the memory", net.register(0, 8), 2);
    }

    /** "the lowest bit of what it becomes is left out". */
    private static void workspaceIsEven() {
        TransputerNet net = new Code().stack(3, 4, 65535).opr(60).done(1);
        stack("gajw", net, Code.W, 4, 3);
        Check.due("gajw of an odd one", net.register(0, 5), 65534);
        net = new TransputerNet(1);
        Code code = new Code().ldc(1).stl(1).f(Code.LDLP, 0).f(Code.ADC, 1).opr(3);
        code.begin(net, 0, 1);
        net.put(0, Code.W, 33333);
        net.run(code.size());
        Check.due("endp of an odd one, W", net.register(0, 5), Code.W);
        Check.due("endp of an odd one, I", net.register(0, 4), 33333);
    }

    /** "16 O" and "16 times (65535 - O)" are cut. */
    private static void operandIsCut() {
        Code code = new Code();
        for (int k = 0; k < 7; k++) {
            code.raw(0x2F);
        }
        Check.due("seven pfix", code.done(1).register(0, 3), 65520);
        Check.due("nfix behind", code.raw(0x6F).done(1).register(0, 3), 0);
        Check.due("nfix of 0", new Code().raw(0x60).done(1).register(0, 3), 65520);
        Check.due("nfix of 65520", new Code().raw(0x60).raw(0x60).done(1).register(0, 3), 240);
        TransputerNet net = new Code().raw(0x2F).raw(0x2F).raw(0x2F).raw(0x4F).done(1);
        stack("the greatest word", net, 65535, 0, 0);
        Check.due("O is 0 behind it", net.register(0, 3), 0);
    }

    /** "the word at A + 2 becomes 1 less; if it is 0": 1 is the last, 0 turns over. */
    private static void countOfEndp() {
        int[][] counts = {{0, 65535, 2}, {1, 0, 1}, {2, 1, 2}, {M, 32767, 2}};
        for (int[] p : counts) {
            TransputerNet net = new Code().ldc(p[0]).stl(1).f(Code.LDLP, 0).opr(3).done(1);
            Check.due("endp of " + p[0], Code.word(net, 0, Code.W + 2), p[1]);
            Check.due("endp of " + p[0] + ", who runs", net.register(0, 6), p[2]);
        }
    }

    /** "becomes 1 less; if it is SIGNED above 0". */
    private static void countOfLend() {
        int[][] counts = {{0, 65535, 0}, {1, 0, 0}, {2, 1, 1}, {M, 32767, 1}, {M + 1, M, 0},
            {65535, 65534, 0}, {32767, 32766, 1}};
        for (int[] p : counts) {
            Code code = new Code().ldc(p[0]).stl(2).stack(3, Code.W + 2, 5).opr(33);
            TransputerNet net = code.done(1);
            stack("lend of " + p[0], net, 3, 3, 3);
            Check.due("lend of " + p[0], Code.word(net, 0, Code.W + 4), p[1]);
            Check.due("lend of " + p[0] + ", the index", Code.word(net, 0, Code.W + 2), p[2]);
            Check.due("lend of " + p[0] + ", I", net.register(0, 4),
                    Code.AT + code.size() - 5 * p[2]);
        }
    }

    /** "a word at an address (its lowest bit is left out)", whatever names that address. */
    private static void oddBlocks() {
        TransputerNet net = new Code().ldc(9).stl(2).stack(3, Code.W + 3, 0).opr(33).done(1);
        Check.due("lend, the count", Code.word(net, 0, Code.W + 4), 8);
        Check.due("lend, the index", Code.word(net, 0, Code.W + 2), 1);
        Check.due("lend, the word behind", Code.word(net, 0, Code.W + 6), 0);
        net = new Code().ldc(9).stl(1).ldc(Code.W + 1).opr(3).done(1);
        Check.due("endp, the count", Code.word(net, 0, Code.W + 2), 8);
        Check.due("endp, the word behind", Code.word(net, 0, Code.W + 4), 0);
        net = new Code().ldc(OTHER).opr(28).stack(3, 4, Code.W + 1).opr(61).done(0);
        Check.due("savel, FRONT", Code.word(net, 0, Code.W), OTHER);
        Check.due("savel, BACK", Code.word(net, 0, Code.W + 2), M);
        Check.due("savel, the word behind", Code.word(net, 0, Code.W + 4), 0);
    }

    private static void indexOfLend() {
        TransputerNet net = new Code().ldc(9).stl(2).ldc(65535).stl(1)
                .stack(3, Code.W + 2, 0).opr(33).done(1);
        Check.due("the index turns over", Code.word(net, 0, Code.W + 2), 0);
    }

    /** "the word at A - 2 becomes I + B; the process A (.. its lowest bit is left out)". */
    private static void startOfAProcess() {
        Code code = new Code().stack(3, 65535, OTHER + 1).opr(13);
        TransputerNet net = code.done(1);
        Check.due("I + B is cut", Code.word(net, 0, OTHER - 2), Code.AT + code.size() - 1);
        Check.due("an odd process is even", net.register(0, 11), OTHER);
        code = new Code().stack(3, 7, OTHER).opr(13);
        net = code.done(1);
        Check.due("I + B of an even one", Code.word(net, 0, OTHER - 2), Code.AT + code.size() + 7);
        Check.due("is all", Code.word(net, 0, OTHER - 4), 0);
        net = new Code().stack(3, 4, 0).opr(13).done(1);
        Check.due("the process 0 is ready", net.register(0, 12), 0);
        Check.due("but its I has no room", net.register(0, 8), 2);
        net = new Code().stack(3, 4, 36864).opr(13).done(1);
        Check.due("one right behind the memory has room for it", net.register(0, 8), 0);
    }

    /** "CHECKED: of SIGNED words; if the result isn't such, ERROR is set (the result is cut)". */
    private static void checkedSums() {
        two(5, 32767, 0, 32767, 0);
        two(5, 32766, 1, 32767, 0);
        two(5, 32767, 32767, 65534, 1);
        two(5, M, M, 0, 1);
        two(5, M + 1, 65535, M, 0);
        two(12, 32767, 65535, M, 1);
        two(12, 65534, 32767, 32767, 1);
        two(12, 65535, 32767, M, 0);
        two(12, 65535, M, 32767, 0);
        two(22, 32767, 32767, 65535, 1);
        op(22, new int[] {76, 32767, 32767}, new int[] {65534, 76, 76}, 1);
        op(22, new int[] {1, 32766, 0}, new int[] {32767, 1, 1}, 0);
        op(22, new int[] {65535, M, M}, new int[] {1, 65535, 65535}, 1);
        op(56, new int[] {1, M, 65535}, new int[] {M, 1, 1}, 0);
        op(56, new int[] {1, 32767, M}, new int[] {65534, 1, 1}, 1);
        op(56, new int[] {1, M, 32767}, new int[] {0, 1, 1}, 1);
        op(56, new int[] {65534, M, 0}, new int[] {M, 65534, 65534}, 0);
        int[][] sums = {{32760, 7, 32767, 0}, {32760, 8, M, 1}, {32776, -8, M, 0},
            {32776, -9, 32767, 1}, {0, M, M, 0}, {65535, M, 32767, 1}};
        for (int[] p : sums) {
            TransputerNet net = new Code().stack(3, 4, p[0]).f(Code.ADC, p[1]).done(1);
            stack("adc of " + p[0] + " and " + p[1], net, p[2], 4, 3);
            Check.due("adc of " + p[0] + " and " + p[1] + ", ERROR", net.register(0, 7), p[3]);
        }
    }

    private static void checkedProducts() {
        two(83, 1, M, M, 0);
        two(83, 65535, 32767, M + 1, 0);
        two(83, M, M, 0, 1);
        two(83, 32767, 32767, 1, 1);
        two(83, 32767, M, M, 1);
        two(83, 181, 181, 32761, 0);
        two(83, 182, 181, 32942, 1);
        two(83, 65355, 181, M + 7, 0);
        two(83, 65355, 182, 32594, 1);
        two(83, 0, M, 0, 0);
    }

    /** csub0, ccnt1, csngl and cword, on both sides of their bounds. */
    private static void checks() {
        check(19, 0, 0, 1);
        check(19, 65535, 0, 1);
        check(19, 0, 1, 0);
        check(19, 65534, 65535, 0);
        check(19, 65535, 65535, 1);
        check(77, 0, 0, 1);
        check(77, 1, 0, 1);
        check(77, 1, 1, 0);
        check(77, 65535, 65535, 0);
        check(77, 65535, 65534, 1);
        check(77, M, 32767, 1);
        check(86, 0, 0, 1);
        check(86, 0, 1, 0);
        check(86, 1, 1, 1);
        check(86, 65535, 1, 0);
        check(86, 65534, 1, 1);
        check(86, 32766, 32767, 0);
        check(86, 32767, 32767, 1);
        check(86, M + 1, 32767, 0);
        check(86, M, 32767, 1);
        check(86, 0, 65535, 1);
        op(76, new int[] {3, 0, 32767}, new int[] {32767, 3, 3}, 0);
        op(76, new int[] {3, 1, 32767}, new int[] {32767, 3, 3}, 1);
        op(76, new int[] {3, 65534, M}, new int[] {M, 3, 3}, 1);
        op(76, new int[] {3, 65535, 65535}, new int[] {65535, 3, 3}, 0);
    }

    private static void greater() {
        two(9, 32767, M, 1, 0);
        two(9, M, 32767, 0, 0);
        two(9, 0, 65535, 1, 0);
        two(9, 65535, 0, 0, 0);
        two(9, M, M, 0, 0);
        two(9, M + 1, M, 1, 0);
    }

    /** "if A is 0, or of -32768 by -1". */
    private static void divisions() {
        two(44, 0, 0, 0, 1);
        two(44, M, 0, 0, 1);
        two(44, M, M, 1, 0);
        two(44, 32767, 65535, M + 1, 0);
        two(44, M + 1, 65535, 32767, 0);
        two(44, 65535, 2, 0, 0);
        two(44, 32767, M, 0, 0);
        two(31, 0, 0, 0, 1);
        two(31, M, 0, 0, 1);
        two(31, M, M, 0, 0);
        two(31, 5, M, 5, 0);
        two(31, 65531, M, 65531, 0);
        two(31, M, 32767, 65535, 0);
    }

    /** "if C is A or more, ERROR is set (and nothing changes)". */
    private static void longDivision() {
        op(26, new int[] {0, 0, 0}, new int[] {0, 0, 0}, 1);
        op(26, new int[] {0, 7, 0}, new int[] {0, 7, 0}, 1);
        op(26, new int[] {5, 7, 5}, new int[] {5, 7, 5}, 1);
        op(26, new int[] {6, 7, 5}, new int[] {5, 7, 6}, 1);
        op(26, new int[] {4, 65535, 5}, new int[] {65535, 4, 4}, 0);
        op(26, new int[] {65535, 65535, 65535}, new int[] {65535, 65535, 65535}, 1);
        op(26, new int[] {M, 0, M + 1}, new int[] {65534, 2, M}, 0);
    }

    /** "0 if A is 16 or more", "0 if A is 32 or more". */
    private static void shifts() {
        int[] far = {16, 17, 31, 32, 33, M, 65535};
        for (int places : far) {
            two(64, 65535, places, 0, 0);
            two(65, 65535, places, 0, 0);
        }
        int[] farther = {32, 33, 63, 64, M, 65535};
        for (int places : farther) {
            op(53, new int[] {65535, 65535, places}, new int[] {0, 0, 65535}, 0);
            op(54, new int[] {65535, 65535, places}, new int[] {0, 0, 65535}, 0);
        }
        op(53, new int[] {65535, 65535, 31}, new int[] {1, 0, 65535}, 0);
        op(54, new int[] {65535, 65535, 31}, new int[] {0, M, 65535}, 0);
        op(53, new int[] {65535, 0, 16}, new int[] {65535, 0, 65535}, 0);
        op(54, new int[] {1, 65535, 16}, new int[] {0, 65535, 1}, 0);
        op(53, new int[] {0x1234, 0x5678, 0}, new int[] {0x5678, 0x1234, 0x1234}, 0);
    }

    private static void doubleWords() {
        op(49, new int[] {0, 65535, 65535}, new int[] {1, 65534, 0}, 0);
        op(49, new int[] {65535, 0, 65535}, new int[] {65535, 0, 65535}, 0);
        op(55, new int[] {0, 65535, 1}, new int[] {0, 1, 0}, 0);
        op(55, new int[] {1, 65535, 0}, new int[] {0, 1, 1}, 0);
        op(55, new int[] {1, 65534, 0}, new int[] {65535, 0, 1}, 0);
        op(55, new int[] {0, 0, 0}, new int[] {0, 0, 0}, 0);
        op(79, new int[] {1, 0, 65535}, new int[] {0, 1, 1}, 0);
        op(79, new int[] {1, 0, 0}, new int[] {65535, 1, 1}, 0);
        op(79, new int[] {65534, 65535, 0}, new int[] {65535, 0, 65534}, 0);
        op(79, new int[] {1, 1, 0}, new int[] {0, 0, 1}, 0);
        op(25, new int[] {3, 0, 0}, new int[] {0, 0, 32}, 0);
        op(25, new int[] {3, 0, 1}, new int[] {0, M, 31}, 0);
        op(25, new int[] {3, 0, M}, new int[] {0, M, 16}, 0);
        op(25, new int[] {3, 1, 65535}, new int[] {M, 65535, 15}, 0);
        op(25, new int[] {3, 32767, 65535}, new int[] {65534, 65535, 1}, 0);
        op(25, new int[] {3, 65535, 65535}, new int[] {65535, 65535, 0}, 0);
        op(29, new int[] {3, 4, 32767}, new int[] {32767, 0, 4}, 0);
        op(29, new int[] {3, 4, 65535}, new int[] {65535, 65535, 4}, 0);
        op(63, new int[] {3, 4, 65535}, new int[] {65535, 1, 4}, 0);
        op(63, new int[] {3, 4, M + 1}, new int[] {49152, 1, 4}, 0);
        op(63, new int[] {3, 4, 32767}, new int[] {16383, 1, 4}, 0);
        op(63, new int[] {3, 4, 0}, new int[] {0, 0, 4}, 0);
    }

    /** "(0 if A is above 16)", and the crc of words whose highest bit is lost. */
    private static void bits() {
        two(120, 65535, 15, 32767, 0);
        two(120, 65535, 16, 65535, 0);
        two(120, 65535, 18, 0, 0);
        two(120, 65535, 65535, 0, 0);
        two(120, 2, 1, 0, 0);
        two(118, 0, 0, 0, 0);
        two(118, 0, 65535, 16, 0);
        op(119, new int[] {3, 4, 0}, new int[] {0, 4, 3}, 0);
        op(119, new int[] {3, 4, M}, new int[] {1, 4, 3}, 0);
        op(119, new int[] {3, 4, 65535}, new int[] {65535, 4, 3}, 0);
        op(116, new int[] {0, 65535, 0x1234}, new int[] {0x1234, 0, 0}, 0);
        op(117, new int[] {0, 0x1234, 0xFF00}, new int[] {0x34FF, 0, 0}, 0);
        op(116, new int[] {65535, 0, 0}, new int[] {0, 65535, 65535}, 0);
        // 0x8000 becomes 0xFFFF, then 1, then six places more
        op(117, new int[] {65535, M, 0}, new int[] {64, 65535, 65535}, 0);
    }

    /** "all others: the node STOPS with OUTCOME 1 .. the OPERATION's number stays in O". */
    private static void unknownOperations() {
        int[] unknown = {17, 20, 35, 40, 42, 45, 91, 115, 121, 122, 255, 256, 4096, 32767, M,
            65520, 65535};
        for (int number : unknown) {
            Code code = new Code().stack(3, 4, 5).opr(number).ldc(9);
            TransputerNet net = code.done(1);
            String name = "operation " + number;
            Check.due(name + ", OUTCOME", net.register(0, 8), 1);
            Check.due(name + ", O", net.register(0, 3), number);
            Check.due(name + ", I", net.register(0, 4), Code.AT + code.size() - 1);
            Check.due(name + ", A", net.register(0, 0), 5);
            Check.due(name + ", it runs", net.register(0, 6), 1);
            Check.due(name + ", executed", net.register(0, 19), code.size() - 1);
        }
    }

    /** "ERROR is set and wasn't ahead of it .. if HALT is set then". */
    private static void errorAndHalt() {
        Check.due("without HALT", new Code().opr(16).ldc(5).done(1).register(0, 8), 0);
        Check.due("HALT behind ERROR", new Code().opr(16, 88).ldc(5).done(1).register(0, 8), 0);
        Check.due("HALT cleared", new Code().opr(88, 87, 16).done(1).register(0, 8), 0);
        TransputerNet net = new Code().opr(16, 88, 41, 16).ldc(5).done(1);
        Check.due("ERROR cleared and set anew", net.register(0, 8), 6);
        Check.due("nothing behind it", net.register(0, 0), 0);
        net = new Code().opr(88).ldc(32767).f(Code.ADC, 1).ldc(5).done(1);
        Check.due("a sum that is too large", net.register(0, 8), 6);
        Check.due("is cut all the same", net.register(0, 0), M);
        Check.due("ERROR stays", net.register(0, 7), 1);
    }
}
