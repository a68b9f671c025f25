/** Part 4 of the document's terms: alternatives, clocks and waiting for a time (promises 5 to 8). */
public final class AlternativeTest {
    private static final int OTHER = 35000;
    private static final int CHANNEL = 34500;
    private static final int DATA = 34100;
    private static final int MINT = Code.MINT;
    private static final int ENABLING = 32769;
    private static final int WAITING = 32770;
    private static final int DONE = 32771;

    public static void main(String[] args) {
        states();
        enabling();
        enablingTimes();
        waiting();
        waitingForTimes();
        disabling();
        outputMeetsAlternative();
        timerInput();
        order();
        leavingTheRow();
        restOfTheRow();
        tooMany();
        clocks();
        Check.finish();
    }

    private static TransputerNet with(Code code, int priority, int[][] words) {
        TransputerNet net = new TransputerNet(1);
        code.begin(net, 0, priority);
        Code.setWord(net, 0, CHANNEL, MINT);
        for (int[] pair : words) {
            Code.setWord(net, 0, pair[0], pair[1]);
        }
        net.run(code.size());
        return net;
    }

    private static int local(TransputerNet net, int k) {
        return Code.word(net, 0, Code.W + 2 * k);
    }

    private static void stack(String name, TransputerNet net, int a, int b, int c) {
        Check.due(name + ", A", net.register(0, 0), a);
        Check.due(name + ", B", net.register(0, 1), b);
        Check.due(name + ", C", net.register(0, 2), c);
    }

    private static void states() {
        TransputerNet net = with(new Code().opr(67), 1, new int[][] {});
        Check.due("alt", local(net, -3), ENABLING);
        Check.due("alt leaves W[-4]", local(net, -4), 0);
        net = with(new Code().opr(78), 1, new int[][] {});
        Check.due("talt", local(net, -3), ENABLING);
        Check.due("talt, W[-4]", local(net, -4), WAITING);
        net = with(new Code().stack(3, 4, 1).opr(73), 1, new int[][] {});
        Check.due("enbs", local(net, -3), DONE);
        stack("enbs", net, 1, 4, 3);
        net = with(new Code().stack(3, 4, 0).opr(73), 1, new int[][] {});
        Check.due("enbs of 0", local(net, -3), 0);
        Code code = new Code().ldc(9).stl(0).opr(69);
        net = with(code, 1, new int[][] {});
        Check.due("altend", net.register(0, 4), Code.AT + code.size() + 9);
    }

    private static void enabling() {
        Code code = new Code().opr(67).stack(3, CHANNEL + 1, 1).opr(72);
        TransputerNet net = with(code, 1, new int[][] {});
        Check.due("enbc of MINT", Code.word(net, 0, CHANNEL), Code.W | 1);
        Check.due("enbc of MINT, W[-3]", local(net, -3), ENABLING);
        stack("enbc", net, 1, 3, 3);
        net = with(code, 1, new int[][] {{CHANNEL, Code.W | 1}});
        Check.due("enbc of OWN", Code.word(net, 0, CHANNEL), Code.W | 1);
        Check.due("enbc of OWN, W[-3]", local(net, -3), ENABLING);
        net = with(code, 1, new int[][] {{CHANNEL, Code.W}});
        Check.due("enbc of another", Code.word(net, 0, CHANNEL), Code.W);
        Check.due("enbc of another, W[-3]", local(net, -3), DONE);
        code = new Code().opr(67).stack(3, CHANNEL, 0).opr(72);
        net = with(code, 1, new int[][] {});
        Check.due("enbc of 0", Code.word(net, 0, CHANNEL), MINT);
        stack("enbc of 0", net, 0, 3, 3);
        for (int channel = 32768; channel <= 32782; channel += 2) {
            net = with(new Code().opr(67).stack(3, channel, 1).opr(72), 1, new int[][] {});
            Check.due("enbc of a link", net.link(0, (channel - 32768) / 2 % 4, 3), 1);
            Check.due("enbc of a link, W[-3]", local(net, -3), ENABLING);
            net = with(new Code().stack(3, channel, 1).opr(72).stack(channel, 1, 5).opr(47), 1,
                    new int[][] {});
            Check.due("disc of a link", net.link(0, (channel - 32768) / 2 % 4, 3), 0);
            Check.due("disc of a link finds none", net.register(0, 0), 0);
        }
    }

    private static void enablingTimes() {
        TransputerNet net = with(new Code().opr(78).stack(3, 500, 1).opr(71), 1, new int[][] {});
        Check.due("enbt, W[-4]", local(net, -4), 32769);
        Check.due("enbt, W[-5]", local(net, -5), 500);
        stack("enbt", net, 1, 3, 3);
        net = with(new Code().opr(78).stack(3, 500, 0).opr(71), 1, new int[][] {});
        Check.due("enbt of 0", local(net, -4), WAITING);
        stack("enbt of 0", net, 0, 3, 3);
        int[][] pairs = {{500, 499, 499}, {500, 501, 500}, {500, 65000, 65000}, {65000, 500, 65000},
            {0, 32768, 0}, {1, 32768, 1}, {0, 32769, 32769}};
        for (int[] p : pairs) {
            net = with(new Code().opr(78).stack(3, p[0], 1).opr(71).ldc(p[1]).ldc(1).opr(71), 1,
                    new int[][] {});
            Check.due("the earlier of " + p[0] + " and " + p[1], local(net, -5), p[2]);
        }
    }

    private static void waiting() {
        Code code = new Code().opr(67).opr(68);
        TransputerNet net = with(code, 1, new int[][] {});
        Check.due("altwt, W[0]", local(net, 0), 65535);
        Check.due("altwt, W[-3]", local(net, -3), WAITING);
        Check.due("altwt, W[-1]", local(net, -1), Code.AT + code.size());
        Check.due("altwt, none runs", net.register(0, 6), 2);
        net = with(new Code().opr(67).ldc(1).opr(73, 68).ldc(2), 1, new int[][] {});
        Check.due("altwt when done", net.register(0, 0), 2);
        Check.due("altwt when done, W[0]", local(net, 0), 65535);
        Check.due("altwt when done, W[-3]", local(net, -3), DONE);
    }

    private static void waitingForTimes() {
        Code code = new Code().ldc(100).opr(84).opr(78).ldc(100).ldc(1).opr(71).opr(81);
        TransputerNet net = with(code, 1, new int[][] {});
        Check.due("taltwt waits", net.register(0, 6), 2);
        Check.due("taltwt, timed", net.register(0, 16), 1);
        Check.due("taltwt, W[0]", local(net, 0), 65535);
        Check.due("taltwt, W[-3]", local(net, -3), WAITING);
        net.run(63 - code.size());
        Check.due("the clock is no more than its time", net.register(0, 16), 1);
        net.run(1);
        Check.due("it is later", net.register(0, 16), 0);
        Check.due("W[-3]", local(net, -3), DONE);
        Check.due("W[-5]", local(net, -5), 101);
        Check.due("it runs", net.register(0, 6), 1);

        code = new Code().ldc(101).opr(84).opr(78).ldc(100).ldc(1).opr(71).opr(81).ldc(7);
        net = with(code, 1, new int[][] {});
        Check.due("taltwt of a time gone by", net.register(0, 0), 7);
        Check.due("W[-3] then", local(net, -3), DONE);
        Check.due("W[-5] then", local(net, -5), 101);
        code = new Code().ldc(100).opr(84).opr(78).ldc(101).ldc(1).opr(71).opr(81);
        net = with(code, 1, new int[][] {});
        net.run(127 - code.size());
        Check.due("its time is W[-5]", net.register(0, 16), 1);
        net.run(1);
        Check.due("and no more", net.register(0, 16), 0);
        code = new Code().opr(78).opr(81);
        net = with(code, 1, new int[][] {});
        Check.due("taltwt without a time", net.register(0, 6), 2);
        Check.due("is not timed", net.register(0, 16), 0);
        code = new Code().ldc(33).opr(84).opr(78).ldc(1).opr(73, 81);
        net = with(code, 1, new int[][] {});
        Check.due("taltwt when done goes on", net.register(0, 6), 1);
        Check.due("with the clock in W[-5]", local(net, -5), 33);
    }

    private static void disabling() {
        Code code = new Code().ldc(65535).stl(0).stack(3, 1, 50).opr(48);
        TransputerNet net = with(code, 1, new int[][] {});
        stack("diss", net, 1, 3, 3);
        Check.due("diss, W[0]", local(net, 0), 50);
        code = new Code().ldc(4).stl(0).stack(3, 1, 50).opr(48);
        net = with(code, 1, new int[][] {});
        stack("diss of a chosen one", net, 0, 3, 3);
        Check.due("diss of a chosen one, W[0]", local(net, 0), 4);
        code = new Code().ldc(65535).stl(0).stack(3, 0, 50).opr(48);
        net = with(code, 1, new int[][] {});
        stack("diss of 0", net, 0, 3, 3);
        Check.due("diss of 0, W[0]", local(net, 0), 65535);
        int[][] cases = {{MINT, 1, 0, MINT}, {Code.W | 1, 1, 0, MINT}, {Code.W, 1, 1, Code.W},
            {Code.W | 1, 0, 0, Code.W | 1}, {OTHER, 0, 0, OTHER}};
        for (int[] p : cases) {
            String name = "disc of " + p[0] + " guard " + p[1];
            code = new Code().ldc(65535).stl(0).stack(CHANNEL + 1, p[1], 50).opr(47);
            net = with(code, 1, new int[][] {{CHANNEL, p[0]}});
            stack(name, net, p[2], CHANNEL + 1, CHANNEL + 1);
            Check.due(name + ", the word", Code.word(net, 0, CHANNEL), p[3]);
            Check.due(name + ", W[0]", local(net, 0), p[2] == 1 ? 50 : 65535);
        }
        int[][] times = {{32769, 11, 10, 1, 1}, {32769, 10, 10, 1, 0}, {32770, 11, 10, 1, 0},
            {32769, 11, 10, 0, 0}, {32769, 5, 65530, 1, 1}};
        for (int[] p : times) {
            code = new Code().ldc(65535).stl(0).stack(p[2], p[3], 50).opr(46);
            net = with(code, 1, new int[][] {{Code.W - 8, p[0]}, {Code.W - 10, p[1]}});
            stack("dist", net, p[4], p[2], p[2]);
            Check.due("dist, W[0]", local(net, 0), p[4] == 1 ? 50 : 65535);
        }
    }

    /** In each state of the alternative the sender waits in the channel's word. */
    private static void outputMeetsAlternative() {
        int[][] states = {{ENABLING, MINT}, {WAITING, OTHER}, {DONE, MINT}};
        for (int[] p : states) {
            Code code = new Code().stack(DATA, CHANNEL, 3).opr(11);
            TransputerNet net = with(code, 1,
                    new int[][] {{CHANNEL, OTHER}, {OTHER - 6, p[0]}});
            String name = "out in state " + p[0];
            Check.due(name + ", its state", Code.word(net, 0, OTHER - 6), DONE);
            Check.due(name + ", ready", net.register(0, 9), p[1]);
            Check.due(name + ", the word", Code.word(net, 0, CHANNEL), Code.W | 1);
            Check.due(name + ", the sender waits", net.register(0, 6), 2);
            Check.due(name + ", its pointer", local(net, -3), DATA);
            Check.due(name + ", not busy", net.register(0, 20), 0);
        }
        Code code = new Code().stack(DATA, CHANNEL, 3).opr(11);
        TransputerNet net = with(code, 1, new int[][] {{CHANNEL, OTHER}, {OTHER - 6, 32772}});
        Check.due("32772 is an address", Code.word(net, 0, CHANNEL), MINT);
    }

    private static void timerInput() {
        Code code = new Code().ldc(200).opr(84).stack(3, 4, 199).opr(43);
        TransputerNet net = with(code, 1, new int[][] {});
        stack("tin of a time gone by", net, 4, 3, 3);
        Check.due("it goes on", net.register(0, 6), 1);
        code = new Code().ldc(200).opr(84).stack(3, 4, 200).opr(43);
        net = with(code, 1, new int[][] {});
        stack("tin", net, 4, 3, 3);
        Check.due("tin waits", net.register(0, 6), 2);
        Check.due("tin, W[-3]", local(net, -3), WAITING);
        Check.due("tin, W[-4]", local(net, -4), 32769);
        Check.due("tin, W[-5]", local(net, -5), 200);
        Check.due("tin, timed", net.register(0, 16), 1);
        net.run(63 - code.size());
        Check.due("not by clock 0", net.register(0, 16), 1);
        net.run(1);
        Check.due("by clock 1", net.register(0, 16), 0);
        Check.due("tin over, W[-3]", local(net, -3), DONE);
        Check.due("tin over, W[-5]", local(net, -5), 201);
        Check.due("tin over, it runs", net.register(0, 6), 1);
        code = new Code().ldc(200).opr(84).ldc(202).opr(43);
        net = with(code, 0, new int[][] {});
        int left = 16 - code.size();
        Check.due("clock 0 of the high ones", net.register(0, 13), 201);
        net.run(left - 1);
        Check.due("not yet", net.register(0, 16), 1);
        net.run(1);
        Check.due("at its tick", net.register(0, 16), 0);
        code = new Code().ldc(32768 + 5).opr(84).ldc(5).opr(43);
        net = with(code, 1, new int[][] {});
        Check.due("32768 more is not later", net.register(0, 16), 1);
    }

    /** Those that are due together are ready in the order in which they came. */
    private static void order() {
        TransputerNet net = new TransputerNet(1);
        Code code = new Code().ldc(OTHER).opr(57).ldc(34800).opr(57).ldc(12).opr(43).ldc(9).stop();
        code.begin(net, 0, 0);
        Code.setWord(net, 0, OTHER - 2, 33200);
        Code.setWord(net, 0, 34800 - 2, 33200);
        new Code().ldc(11).opr(43).stop().load(net, 0, 33200);
        net.run(47);
        Check.due("three wait", net.register(0, 16), 3);
        net.run(1);
        Check.due("two are due", net.register(0, 16), 1);
        Check.due("the first came first", net.register(0, 5), OTHER);
        Check.due("the second is behind it", net.register(0, 9), 34800);
        net.run(4);
        Check.due("the third is due later", net.register(0, 16), 0);
    }

    /** An out to one that waits for a time, too, takes it from the row each time it is there. */
    private static void leavingTheRow() {
        TransputerNet net = new TransputerNet(1);
        Code code = new Code().ldc(OTHER | 1).opr(57, 78).ldc(9).ldc(1).opr(71)
                .ldc(CHANNEL).ldc(1).opr(72).opr(81);
        code.begin(net, 0, 1);
        Code.setWord(net, 0, CHANNEL, MINT);
        Code.setWord(net, 0, OTHER - 2, 33200);
        Code second = new Code().ldc(CHANNEL).ldc(77).opr(15);
        second.load(net, 0, 33200);
        net.run(code.size());
        Check.due("timed", net.register(0, 16), 1);
        net.run(second.size() - 1);
        Check.due("timed yet", net.register(0, 16), 1);
        net.run(1);
        Check.due("not timed", net.register(0, 16), 0);
        Check.due("ready", net.register(0, 11), Code.W);
        Check.due("W[-3]", local(net, -3), DONE);
        Check.due("W[-5] is its time", local(net, -5), 9);

        // the same workspace is let wait twice, by a runp of one that waits already
        net = new TransputerNet(1);
        code = new Code().ldc(OTHER | 1).opr(57).ldc(9).opr(43).ldc(9).opr(43);
        code.begin(net, 0, 1);
        Code.setWord(net, 0, CHANNEL, Code.W | 1);
        Code.setWord(net, 0, OTHER - 2, 33200);
        second = new Code().ldc(Code.W | 1).opr(57).ldc(OTHER | 1).opr(57).stop()
                .ldc(CHANNEL).ldc(77).opr(15);
        second.load(net, 0, 33200);
        net.run(code.size() + second.size() - 1);
        Check.due("timed twice", net.register(0, 16), 2);
        net.run(1);
        Check.due("both are gone", net.register(0, 16), 0);
        Check.due("but ready once", net.register(0, 12), Code.W);
        Check.due("and first, too", net.register(0, 11), Code.W);
    }

    /** Some leave the row, the others stay there in their order. */
    private static void restOfTheRow() {
        TransputerNet net = new TransputerNet(1);
        Code code = new Code().ldc(OTHER).opr(57).ldc(34800).opr(57).ldc(12).opr(43).ldc(9).stop();
        code.begin(net, 0, 0);
        Code.setWord(net, 0, OTHER - 2, 33200);
        new Code().ldc(14).opr(43).stop().load(net, 0, 33200);
        Code.setWord(net, 0, 34800 - 2, 33250);
        new Code().ldc(13).opr(43).stop().load(net, 0, 33250);
        net.run(52);
        Check.due("the first is due", net.register(0, 5), Code.W);
        Check.due("two wait", net.register(0, 16), 2);
        net.run(4);
        Check.due("the last is due", net.register(0, 5), 34800);
        Check.due("one waits", net.register(0, 16), 1);
        net.run(4);
        Check.due("the second is due", net.register(0, 5), OTHER);
        Check.due("none waits", net.register(0, 16), 0);

        net = new TransputerNet(1);
        Code third = new Code().ldc(CHANNEL).ldc(77).opr(15);
        code = new Code().ldc(OTHER).opr(57).ldc(34800).opr(57).ldc(34600).opr(57)
                .ldc(40).opr(43).stop();
        code.begin(net, 0, 0);
        Code.setWord(net, 0, CHANNEL, OTHER);
        Code.setWord(net, 0, OTHER - 2, 33200);
        new Code().ldc(41).opr(43).stop().load(net, 0, 33200);
        Code.setWord(net, 0, 34800 - 2, 33250);
        new Code().ldc(42).opr(43).stop().load(net, 0, 33250);
        Code.setWord(net, 0, 34600 - 2, 33300);
        third.load(net, 0, 33300);
        net.run(120);
        Check.due("one left by an out", net.register(0, 16), 2);
        net.run(164 - 120 - 1);
        Check.due("the first waits yet", net.register(0, 16), 2);
        net.run(1);
        Check.due("it is due", net.register(0, 5), Code.W);
        net.run(171 - 164);
        Check.due("the third waits", net.register(0, 16), 1);
        net.run(1);
        Check.due("the third is due", net.register(0, 5), 34800);
        Check.due("at its time", net.register(0, 16), 0);
    }

    /** One process lets itself wait again and again, as a low one starts it anew. */
    private static void tooMany() {
        TransputerNet net = new TransputerNet(1);
        Code code = new Code().ldc(OTHER).opr(57);
        code.f(Code.J, -(code.size() + 2));
        code.begin(net, 0, 1);
        Code waits = new Code().ldc(20000).opr(43);
        waits.f(Code.J, -(waits.size() + 2));
        Code.setWord(net, 0, OTHER - 2, 33200);
        waits.load(net, 0, 33200);
        int ticks = 0;
        while (net.register(0, 16) < 64 && ticks < 2000) {
            net.run(1);
            ticks++;
        }
        Check.due("64 are kept", net.register(0, 8), 0);
        net.run(30);
        Check.due("one more stops it", net.register(0, 8), 4);
        Check.due("64 yet", net.register(0, 16), 64);
        Check.due("behind its WAIT", net.register(0, 6), 2);
    }

    private static void clocks() {
        Code code = new Code().stack(3, 4, 65535).opr(84);
        TransputerNet net = with(code, 1, new int[][] {});
        stack("sttimer", net, 4, 3, 3);
        int ticks = code.size();
        net.run((ticks + 3) / 4 * 4 - ticks);
        Check.due("clock 0 turned over", net.register(0, 13), ticks % 4 == 0 ? 65535 : 0);
        Check.due("clock 1 was set", net.register(0, 14), 65535);
        net.run(64);
        Check.due("clock 1 turned over", net.register(0, 14), 0);
        net = with(new Code().ldc(500).opr(84).opr(34), 1, new int[][] {});
        Check.due("ldtimer of a low one", net.register(0, 0), 500);
        net = with(new Code().ldc(500).opr(84).raw(0x40).raw(0x40).raw(0x40).raw(0x40).opr(34), 0,
                new int[][] {});
        Check.due("ldtimer of a high one", net.register(0, 0) > 500, true);
        Check.due("it is clock 0", net.register(0, 0) <= net.register(0, 13), true);
        net = new Code().opr(99).done(1);
        int before = net.register(0, 13);
        net.run(40);
        Check.due("clocks go on when it stopped", net.register(0, 13), before + 10);
    }
}
