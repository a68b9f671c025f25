/** Times and alternatives at the edges: LATER, clocks that turn over, a full row (part 4). */
public final class TimeEdgeTest {
    private static final int OTHER = 35000;
    private static final int MINT = Code.MINT;
    private static final int WAITING = 32770;
    private static final int DONE = 32771;
    /** How many bytes an ldc of a short length and a lend take. */
    private static final int LOOP_END = 3;
    private static final int[][] LATER = {{0, 0}, {1, 1}, {2, 1}, {32766, 1}, {32767, 1},
        {32768, 0}, {32769, 0}, {65534, 0}, {65535, 0}};
    private static final int[] BASES = {0, 1, 500, 32767, 32768, 65535};

    public static void main(String[] args) {
        laterForTin();
        laterForTaltwt();
        laterForEnbt();
        laterForDist();
        clockTurnsOverForOneThatWaits();
        clockEqualToItsTime();
        notBySttimer();
        farAwayTime();
        clocksAtTheirTicks();
        clocksOfAll();
        clocksTurnOver();
        noneIsTimed();
        fullRow();
        fullRowOfBoth();
        fullRowForTaltwt();
        roomAgain();
        conditions();
        statesOfWaiting();
        chosenIsNotChosenAgain();
        Check.finish();
    }

    private static TransputerNet with(Code code, int priority, int[][] words) {
        TransputerNet net = new TransputerNet(1);
        code.begin(net, 0, priority);
        for (int[] pair : words) {
            Code.setWord(net, 0, pair[0], pair[1]);
        }
        net.run(code.size());
        return net;
    }

    private static int local(TransputerNet net, int k) {
        return Code.word(net, 0, Code.W + 2 * k);
    }

    /** "x is LATER than y: x - y is, SIGNED, above 0", for a clock and the time of a tin. */
    private static void laterForTin() {
        for (int time : BASES) {
            for (int[] p : LATER) {
                int clock = time + p[0] & 65535;
                TransputerNet net = with(new Code().ldc(clock).opr(84).ldc(time).opr(43), 1,
                        new int[][] {});
                String name = "tin of " + time + " at " + clock;
                Check.due(name, net.register(0, 6), p[1] == 1 ? 1 : 2);
                Check.due(name + ", timed", net.register(0, 16), 1 - p[1]);
                Check.due(name + ", W[-3]", local(net, -3), p[1] == 1 ? 0 : WAITING);
            }
        }
    }

    private static void laterForTaltwt() {
        for (int time : BASES) {
            for (int[] p : LATER) {
                int clock = time + p[0] & 65535;
                Code code = new Code().ldc(clock).opr(84, 78).ldc(time).ldc(1).opr(71, 81);
                TransputerNet net = with(code, 1, new int[][] {});
                String name = "taltwt of " + time + " at " + clock;
                Check.due(name, net.register(0, 6), p[1] == 1 ? 1 : 2);
                Check.due(name + ", timed", net.register(0, 16), 1 - p[1]);
                Check.due(name + ", W[-3]", local(net, -3), p[1] == 1 ? DONE : WAITING);
                Check.due(name + ", W[-5]", local(net, -5), p[1] == 1 ? clock : time);
            }
        }
    }

    private static void laterForEnbt() {
        for (int time : BASES) {
            for (int[] p : LATER) {
                int old = time + p[0] & 65535;
                Code code = new Code().stack(3, time, 1).opr(71);
                TransputerNet net = with(code, 1,
                        new int[][] {{Code.W - 8, 32769}, {Code.W - 10, old}});
                Check.due("enbt of " + time + " behind " + old, local(net, -5),
                        p[1] == 1 ? time : old);
            }
        }
    }

    private static void laterForDist() {
        for (int time : BASES) {
            for (int[] p : LATER) {
                int now = time + p[0] & 65535;
                Code code = new Code().ldc(65535).stl(0).stack(time, 1, 50).opr(46);
                TransputerNet net = with(code, 1,
                        new int[][] {{Code.W - 8, 32769}, {Code.W - 10, now}});
                Check.due("dist of " + time + " at " + now, net.register(0, 0), p[1]);
                Check.due("dist of " + time + " at " + now + ", W[0]", local(net, 0),
                        p[1] == 1 ? 50 : 65535);
            }
        }
    }

    /** CLOCK 0 is LATER than 65535, so one that waits for that is due when it turns over. */
    private static void clockTurnsOverForOneThatWaits() {
        for (int priority = 0; priority <= 1; priority++) {
            int period = priority == 0 ? 4 : 64;
            Code code = new Code().ldc(65533).opr(84).ldc(65535).opr(43);
            TransputerNet net = with(code, priority, new int[][] {});
            Check.due("it waits", net.register(0, 16), 1);
            int ticks = code.size();
            while (net.register(0, 13 + priority) != 65535 && ticks < 200) {
                net.run(1);
                ticks++;
            }
            int due = (ticks / period + 1) * period;
            net.run(due - 1 - ticks);
            Check.due("it waits at 65535", net.register(0, 16), 1);
            net.run(1);
            Check.due("at 0 it is due", net.register(0, 16), 0);
            Check.due("W[-3]", local(net, -3), DONE);
            Check.due("W[-5]", local(net, -5), 0);
            Check.due("it runs", net.register(0, 6), priority);
        }
    }

    /** A clock that has become the time itself is not LATER. */
    private static void clockEqualToItsTime() {
        Code code = new Code().ldc(5).opr(43);
        TransputerNet net = with(code, 0, new int[][] {});
        net.run(20 - code.size());
        Check.due("the clock is 5", net.register(0, 13), 5);
        Check.due("it waits", net.register(0, 16), 1);
        net.run(3);
        Check.due("it waits on", net.register(0, 16), 1);
        net.run(1);
        Check.due("the clock is 6", net.register(0, 13), 6);
        Check.due("it is due", net.register(0, 16), 0);
        Check.due("W[-5]", local(net, -5), 6);
    }

    /** "each time a CLOCK becomes 1 more by a tick (not by sttimer)". */
    private static void notBySttimer() {
        TransputerNet net = new TransputerNet(1);
        Code code = new Code().ldc(OTHER | 1).opr(57).ldc(10).opr(43);
        Code second = new Code().ldc(50).opr(84).stop();
        code.begin(net, 0, 1);
        second.load(net, 0, 33300);
        Code.setWord(net, 0, OTHER - 2, 33300);
        net.run(code.size() + second.size());
        Check.due("the clock was set", net.register(0, 14), 50);
        Check.due("it waits all the same", net.register(0, 16), 1);
        net.run(63 - code.size() - second.size());
        Check.due("until the clock's tick", net.register(0, 16), 1);
        net.run(1);
        Check.due("then it is due", net.register(0, 16), 0);
        Check.due("W[-5]", local(net, -5), 51);
    }

    /** A clock set to 32768 more or farther is not LATER any more: it must come round. */
    private static void farAwayTime() {
        TransputerNet net = new TransputerNet(1);
        Code code = new Code().ldc(OTHER | 1).opr(57).ldc(10).opr(43);
        Code second = new Code().ldc(10 + 32767).opr(84).stop();
        code.begin(net, 0, 1);
        second.load(net, 0, 33300);
        Code.setWord(net, 0, OTHER - 2, 33300);
        net.run(64);
        Check.due("the clock went on", net.register(0, 14), 10 + 32768);
        Check.due("and is not later", net.register(0, 16), 1);
    }

    /** "0 becomes 1 more every 4 ticks, 1 every 64 ticks (.. is a multiple)". */
    private static void clocksAtTheirTicks() {
        TransputerNet net = new TransputerNet(1);
        for (int tick = 1; tick <= 130; tick++) {
            net.run(1);
            Check.due("clock 0 at " + tick, net.register(0, 13), tick / 4);
            Check.due("clock 1 at " + tick, net.register(0, 14), tick / 64);
        }
    }

    /** "also of nodes that STOPPED", and of those that boot or wait. */
    private static void clocksOfAll() {
        TransputerNet net = new TransputerNet(3);
        new Code().opr(99).begin(net, 0, 1);
        new Code().stop().begin(net, 1, 1);
        net.run(640);
        Check.due("it stopped", net.register(0, 8), 1);
        for (int node = 0; node < 3; node++) {
            Check.due("clock 0", net.register(node, 13), 160);
            Check.due("clock 1", net.register(node, 14), 10);
        }
    }

    /** sttimer sets both; each turns over at its own tick. */
    private static void clocksTurnOver() {
        Code code = new Code().ldc(65535).opr(84).stop();
        TransputerNet net = with(code, 1, new int[][] {});
        net.run(64 - code.size());
        Check.due("clock 1 turned over", net.register(0, 14), 0);
        Check.due("clock 0 did so, too", net.register(0, 13) < 16, true);
    }

    private static void noneIsTimed() {
        Code code = new Code().stop();
        TransputerNet net = with(code, 1, new int[][] {});
        net.run(500);
        Check.due("none is timed", net.register(0, 16), 0);
        Check.due("none is ready", net.register(0, 11), MINT);
        Check.due("none runs", net.register(0, 6), 2);
    }

    /** A low one that lets a high one wait so many times, then goes on with the code. */
    private static Code waits(int times) {
        Code code = new Code().ldc(times).stl(2);
        int top = code.size();
        code.ldc(OTHER).opr(57).f(Code.LDLP, 1);
        int length = code.size() - top + LOOP_END;
        return code.ldc(length).opr(33);
    }

    private static void loaded(TransputerNet net, Code code) {
        code.begin(net, 0, 1);
        Code.setWord(net, 0, OTHER - 2, 33300);
        Code waiter = new Code().ldc(20000).opr(43);
        waiter.f(Code.J, -(waiter.size() + 2)).load(net, 0, 33300);
    }

    private static TransputerNet filled(Code code) {
        TransputerNet net = new TransputerNet(1);
        loaded(net, code);
        Code.runMore(net, 2500);
        return net;
    }

    /** "At most 64 are kept of a node: one more (behind its WAIT) STOPS it with OUTCOME 4". */
    private static void fullRow() {
        TransputerNet net = filled(waits(63).stop());
        Check.due("63 are kept", net.register(0, 16), 63);
        Check.due("no outcome of 63", net.register(0, 8), 0);
        net = filled(waits(64).ldc(5).stop());
        Check.due("64 are kept", net.register(0, 16), 64);
        Check.due("no outcome of 64", net.register(0, 8), 0);
        Check.due("it went on", net.register(0, 0), 5);
        net = filled(waits(65).ldc(5).stop());
        Check.due("64 of 65 are kept", net.register(0, 16), 64);
        Check.due("OUTCOME", net.register(0, 8), 4);
        Check.due("the other is shelved", net.register(0, 17), 1);
        Check.due("none runs", net.register(0, 6), 2);
        Check.due("W[-1]", Code.word(net, 0, OTHER - 2) > 33300, true);
        Check.due("W[-3]", Code.word(net, 0, OTHER - 6), WAITING);
    }

    /** 64 "of a node", not of each PRIORITY. */
    private static void fullRowOfBoth() {
        TransputerNet net = filled(waits(63).ldc(20000).opr(43));
        Check.due("63 high ones and a low one", net.register(0, 16), 64);
        Check.due("no outcome", net.register(0, 8), 0);
        net = filled(waits(64).ldc(20000).opr(43));
        Check.due("64 high ones and a low one", net.register(0, 16), 64);
        Check.due("OUTCOME", net.register(0, 8), 4);
        Check.due("behind its WAIT", net.register(0, 6), 2);
        Check.due("W[-5]", local(net, -5), 20000);
        // its WAIT went beyond the memory, yet 4 comes within the instruction
        net = filled(waits(64).ldc(40000).opr(60).ldc(20000).opr(43));
        Check.due("4 goes ahead of 2", net.register(0, 8), 4);
    }

    private static void fullRowForTaltwt() {
        TransputerNet net = filled(waits(64).opr(78).ldc(20000).ldc(1).opr(71, 81));
        Check.due("taltwt with a time", net.register(0, 8), 4);
        net = filled(waits(64).opr(78, 81));
        Check.due("taltwt without one", net.register(0, 8), 0);
        Check.due("it waits", net.register(0, 6), 2);
        net = filled(waits(64).ldc(65000).opr(43).ldc(5).stop());
        Check.due("a time gone by needs no room", net.register(0, 8), 0);
        Check.due("it goes on", net.register(0, 0), 5);
    }

    /** When their time is over, 64 leave at once, and there is room for another. */
    private static void roomAgain() {
        TransputerNet net = new TransputerNet(1);
        loaded(net, waits(64).ldc(20000).opr(84).ldc(0).ldc(0).ldc(0).ldc(0).stop());
        net.run(1000);
        int ticks = 0;
        while (net.register(0, 13) < 20000 && ticks < 200) {
            net.run(1);
            ticks++;
        }
        Check.due("64 wait while the clock is set", net.register(0, 16), 64);
        Check.due("to their time", net.register(0, 13), 20000);
        while (net.register(0, 13) == 20000 && ticks < 220) {
            net.run(1);
            ticks++;
        }
        Check.due("a tick of the clock later", net.register(0, 13), 20001);
        Check.due("none waits", net.register(0, 16), 0);
        Check.due("it runs", net.register(0, 5), OTHER);
        Check.due("no outcome", net.register(0, 8), 0);
    }

    /** "if A isn't 0", "if B isn't 0": any other word counts, not 1 alone. */
    private static void conditions() {
        int[] conditions = {0, 1, 2, MINT, 65534, 65535};
        for (int condition : conditions) {
            int holds = condition == 0 ? 0 : 1;
            String name = " if " + condition;
            TransputerNet net = with(new Code().stack(3, 4, condition).opr(73), 1, new int[][] {});
            Check.due("enbs" + name, local(net, -3), holds * DONE);
            net = with(new Code().stack(3, 34500, condition).opr(72), 1,
                    new int[][] {{34500, MINT}});
            Check.due("enbc" + name, Code.word(net, 0, 34500), holds == 1 ? Code.W | 1 : MINT);
            Check.due("enbc" + name + ", B", net.register(0, 1), 3);
            net = with(new Code().stack(3, 32778, condition).opr(72), 1, new int[][] {});
            Check.due("enbc of a link" + name, net.link(0, 1, 3), holds);
            net = with(new Code().opr(78).stack(3, 400, condition).opr(71), 1, new int[][] {});
            Check.due("enbt" + name, local(net, -5), holds * 400);
            Check.due("enbt" + name + ", B", net.register(0, 1), 3);
            Code chosen = new Code().ldc(65535).stl(0).stack(3, condition, 50).opr(48);
            Check.due("diss" + name, with(chosen, 1, new int[][] {}).register(0, 0), holds);
            chosen = new Code().ldc(65535).stl(0).stack(34500, condition, 50).opr(47);
            net = with(chosen, 1, new int[][] {{34500, OTHER}});
            Check.due("disc" + name, net.register(0, 0), holds);
            chosen = new Code().ldc(65535).stl(0).stack(9, condition, 50).opr(46);
            net = with(chosen, 1, new int[][] {{Code.W - 8, 32769}, {Code.W - 10, 10}});
            Check.due("dist" + name, net.register(0, 0), holds);
        }
    }

    /** "if W[-3] isn't 32771": whatever else it is. */
    private static void statesOfWaiting() {
        int[] states = {0, 32768, 32769, 32770, 32771, 32772, 65535};
        for (int state : states) {
            boolean done = state == DONE;
            TransputerNet net = with(new Code().opr(68), 1, new int[][] {{Code.W - 6, state}});
            Check.due("altwt in " + state, net.register(0, 6), done ? 1 : 2);
            Check.due("altwt in " + state + ", W[-3]", local(net, -3), done ? DONE : WAITING);
            Check.due("altwt in " + state + ", W[0]", local(net, 0), 65535);
            net = with(new Code().opr(81), 1,
                    new int[][] {{Code.W - 6, state}, {Code.W - 8, WAITING}, {Code.W - 10, 7}});
            Check.due("taltwt in " + state, net.register(0, 6), done ? 1 : 2);
            Check.due("taltwt in " + state + ", W[-5]", local(net, -5), done ? 0 : 7);
            Check.due("taltwt in " + state + ", not timed", net.register(0, 16), 0);
        }
    }

    /** "and W[0] is 65535": what is chosen stays, even as 0 or 65534. */
    private static void chosenIsNotChosenAgain() {
        int[] chosen = {0, 1, 65534};
        for (int old : chosen) {
            TransputerNet net = with(new Code().ldc(old).stl(0).stack(3, 1, 50).opr(48), 1,
                    new int[][] {});
            Check.due("W[0] stays", local(net, 0), old);
            Check.due("A", net.register(0, 0), 0);
        }
        TransputerNet net = with(new Code().ldc(65535).stl(0).stack(3, 1, 65535).opr(48), 1,
                new int[][] {});
        Check.due("65535 chosen", net.register(0, 0), 1);
        Check.due("is as none", local(net, 0), 65535);
    }
}
