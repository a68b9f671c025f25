/** Channels at the edges: none waits, no bytes, too many, the first and last addresses (part 3). */
public final class ChannelEdgeTest {
    private static final int OTHER = 35000;
    private static final int CHANNEL = 34500;
    private static final int FROM = 34100;
    private static final int TO = 34200;
    private static final int MINT = Code.MINT;
    private static final int IN = 7;
    private static final int OUT = 11;
    private static final int MOVE = 74;

    public static void main(String[] args) {
        noneWaits();
        addressesOfLinks();
        lowestBitOfAChannel();
        busyIsCutDown();
        noBytes();
        noBytesToALink();
        mostBytes();
        tooManyBytes();
        tooManyForOneThatWaits();
        busyWhenStopped();
        copyOverTheEdge();
        copyTurnsOver();
        channelBeyond();
        statesAndAddresses();
        pointerBeyond();
        resetOfNone();
        resetBeyond();
        Check.finish();
    }

    private static TransputerNet with(Code code, int priority, int[][] words) {
        TransputerNet net = new TransputerNet(1);
        code.begin(net, 0, priority);
        Code.setWord(net, 0, CHANNEL, MINT);
        net.put(0, FROM, 0x0807060504030201L);
        for (int[] pair : words) {
            Code.setWord(net, 0, pair[0], pair[1]);
        }
        net.run(code.size());
        return net;
    }

    /** One that waits at the channel, with its pointer. */
    private static int[][] waiting(int pointer) {
        return new int[][] {{CHANNEL, OTHER | 1}, {OTHER - 6, pointer}};
    }

    private static Code communicate(int operation, int pointer, int count) {
        return new Code().stack(pointer, CHANNEL, count).opr(operation);
    }

    /** "MINT there means that none waits, else it is the DESCRIPTOR". */
    private static void noneWaits() {
        int[] operations = {IN, OUT};
        for (int operation : operations) {
            TransputerNet net = with(communicate(operation, FROM, 1), 0, new int[][] {});
            Check.due("MINT: OWN waits", Code.word(net, 0, CHANNEL), Code.W);
            Check.due("MINT: none runs", net.register(0, 6), 2);
            int[] others = {MINT + 1, MINT - 1, OTHER};
            for (int other : others) {
                net = with(communicate(operation, FROM, 1), 0, new int[][] {{CHANNEL, other}});
                Check.due(other + " waits", Code.word(net, 0, CHANNEL), MINT);
                Check.due(other + " is ready", net.register(0, 10 + other % 2 * 2), other & 65534);
                Check.due("it goes on", net.register(0, 6), 0);
            }
        }
    }

    /** "32768, 32770, .. 32774 are the outputs of LINKS 0 .. 3, 32776 .. 32782 their inputs". */
    private static void addressesOfLinks() {
        for (int channel = 32768; channel <= 32783; channel++) {
            int link = (channel - 32768) / 2 % 4;
            TransputerNet net = new Code().stack(TO, channel, 3).opr(IN).done(1);
            Check.due("in of " + channel, net.link(0, link, 1), 3);
            Check.due("the word stays", Code.word(net, 0, channel & 65534), MINT);
            net = new Code().stack(TO, channel, 3).opr(OUT).done(1);
            Check.due("out of " + channel, net.link(0, link, 0), 3);
            Check.due("the word stays", Code.word(net, 0, channel & 65534), MINT);
        }
        int[] others = {32784, 32785, 36862, 36863};
        for (int channel : others) {
            Code code = new Code().stack(TO, channel, 3).opr(IN);
            TransputerNet net = with(code, 1, new int[][] {{channel & 65534, MINT}});
            Check.due("in of " + channel, Code.word(net, 0, channel & 65534), Code.W | 1);
            Check.due("no outcome", net.register(0, 8), 0);
            for (int link = 0; link < 4; link++) {
                Check.due("no link's", net.link(0, link, 1), 0);
            }
        }
    }

    /** "the address of a word (its lowest bit is left out)". */
    private static void lowestBitOfAChannel() {
        TransputerNet net = with(new Code().stack(TO, CHANNEL + 1, 2).opr(OUT), 1, waiting(TO));
        Check.due("out of an odd one", Code.word(net, 0, CHANNEL), MINT);
        net = with(new Code().stack(3, 4, CHANNEL + 1).opr(18), 1, waiting(TO));
        Check.due("resetch of an odd one", net.register(0, 0), OTHER | 1);
        Check.due("and its word", Code.word(net, 0, CHANNEL), MINT);
        net = with(new Code().stack(CHANNEL + 1, 1, 9).opr(47), 1,
                new int[][] {{CHANNEL, Code.W | 1}});
        Check.due("disc of an odd one", Code.word(net, 0, CHANNEL), MINT);
    }

    /** "in the n / 4 (cut down) ticks that follow". */
    private static void busyIsCutDown() {
        int[] operations = {IN, OUT, MOVE};
        for (int operation : operations) {
            for (int count = 0; count <= 9; count++) {
                Code code = operation == MOVE ? new Code().stack(FROM, TO, count).opr(MOVE)
                        : communicate(operation, FROM, count);
                TransputerNet net = with(code.ldc(5).ldc(6), 1, waiting(TO));
                String name = "operation " + operation + " of " + count;
                int done = net.register(0, 0) == 6 ? 2 : net.register(0, 0) == 5 ? 1 : 0;
                Check.due(name + " by then", done, 2 - count / 4);
                net.run(count / 4);
                Check.due(name + " then", net.register(0, 0), 6);
                Check.due(name + " in all", net.register(0, 19), code.size());
            }
        }
    }

    /** No bytes are copied, yet those at a channel in memory meet all the same. */
    private static void noBytes() {
        int[] operations = {IN, OUT};
        for (int operation : operations) {
            TransputerNet net = with(communicate(operation, FROM, 0).ldc(5), 1, waiting(TO));
            Check.due("the word", Code.word(net, 0, CHANNEL), MINT);
            Check.due("the partner is ready", net.register(0, 11), OTHER);
            Check.due("nothing came", net.peek(0, TO), 0);
            Check.due("nothing went", net.peek(0, FROM), 1);
            Check.due("it goes on at once", net.register(0, 0), 5);
            net = with(communicate(operation, FROM, 0), 1, new int[][] {});
            Check.due("with none there it waits", net.register(0, 6), 2);
        }
        TransputerNet net = with(new Code().stack(FROM, TO, 0).opr(MOVE).ldc(5), 1, waiting(TO));
        Check.due("a move of none", net.register(0, 0), 5);
        Check.due("a move of none, popped", net.register(0, 1), FROM);
        net = with(new Code().stack(0, 0, 0).opr(MOVE).ldc(5), 1, waiting(TO));
        Check.due("and looks at nothing", net.register(0, 8), 0);
    }

    /** "With n 0 the process goes on at once; likewise in; nothing is looked at then". */
    private static void noBytesToALink() {
        int[] operations = {IN, OUT};
        for (int operation : operations) {
            Code first = new Code().ldc(OTHER | 1).opr(57).stack(FROM, 32770, 2).opr(operation);
            Code second = new Code().stack(TO, 32770, 0).opr(operation).ldc(5);
            TransputerNet net = new TransputerNet(1);
            first.begin(net, 0, 1);
            second.load(net, 0, 33300);
            Code.setWord(net, 0, OTHER - 2, 33300);
            net.run(first.size() + second.size());
            Check.due("another is there: no outcome", net.register(0, 8), 0);
            Check.due("it goes on", net.register(0, 0), 5);
            Check.due("popped", net.register(0, 1), TO);
            Check.due("the other has its bytes", net.link(0, 1, operation == OUT ? 0 : 1), 2);
        }
    }

    private static void mostBytes() {
        int[] operations = {IN, OUT};
        for (int operation : operations) {
            TransputerNet net = with(communicate(operation, MINT, 4096), 1, waiting(MINT));
            Check.due("4096 bytes", net.register(0, 8), 0);
            Check.due("take their time", net.register(0, 20), 1024);
            net = new Code().stack(MINT, 32768, 4096).opr(operation).done(1);
            Check.due("4096 of a link", net.link(0, 0, operation == OUT ? 0 : 1), 4096);
            Check.due("4096 of a link, no outcome", net.register(0, 8), 0);
        }
    }

    /** "More than 4096 bytes (in, out, move): the node STOPS with OUTCOME 5". */
    private static void tooManyBytes() {
        int[] operations = {IN, OUT, MOVE};
        int[] counts = {4097, 8192, 32767, MINT, 65535};
        for (int operation : operations) {
            for (int count : counts) {
                TransputerNet net = with(new Code().stack(FROM, 32776, count).opr(operation).ldc(5),
                        1, new int[][] {});
                String name = "operation " + operation + " of " + count;
                Check.due(name + ", OUTCOME", net.register(0, 8), 5);
                Check.due(name + ", A", net.register(0, 0), count);
                Check.due(name + ", B", net.register(0, 1), 32776);
                Check.due(name + ", C", net.register(0, 2), FROM);
                Check.due(name + ", O", net.register(0, 3), 0);
                Check.due(name + ", it runs", net.register(0, 6), 1);
                Check.due(name + ", to come", net.link(0, 0, 1), 0);
                Check.due(name + ", to go", net.link(0, 0, 0), 0);
                Check.due(name + ", not busy", net.register(0, 20), 0);
                Check.due(name + ", no byte", net.peek(0, 32776), 0);
            }
        }
    }

    /** "and nothing else happens". */
    private static void tooManyForOneThatWaits() {
        int[] operations = {IN, OUT};
        for (int operation : operations) {
            TransputerNet net = with(communicate(operation, FROM, 4097), 1, waiting(TO));
            Check.due("OUTCOME", net.register(0, 8), 5);
            Check.due("the word stays", Code.word(net, 0, CHANNEL), OTHER | 1);
            Check.due("none is ready", net.register(0, 11), MINT);
            net = with(communicate(operation, FROM, 4097), 1, waiting(32770));
            Check.due("an alternative stays", Code.word(net, 0, OTHER - 6), 32770);
        }
    }

    /** "(also counted when it STOPPED)". */
    private static void busyWhenStopped() {
        TransputerNet net = with(new Code().stack(FROM, 36862, 9).opr(MOVE), 1, new int[][] {});
        Check.due("stopped", net.register(0, 8), 2);
        int executed = net.register(0, 19);
        int[] want = {2, 1, 0, 0};
        for (int busy : want) {
            Check.due("busy", net.register(0, 20), busy);
            net.run(1);
        }
        Check.due("nothing is executed behind it", net.register(0, 19), executed);
    }

    /** "A byte beyond MEMORY is read as 0, and written nowhere". */
    private static void copyOverTheEdge() {
        TransputerNet net = with(new Code().stack(FROM, 36862, 4).opr(MOVE), 1, new int[][] {});
        Check.due("written up to the edge", Code.word(net, 0, 36862), 0x0201);
        Check.due("and nowhere else", Code.word(net, 0, 32768), MINT);
        Check.due("OUTCOME", net.register(0, 8), 2);
        net = with(new Code().stack(FROM, 32766, 4).opr(MOVE), 1, new int[][] {});
        Check.due("written from the edge on", Code.word(net, 0, 32768), 0x0403);
        Check.due("and no further", Code.word(net, 0, 32770), MINT);
        Check.due("OUTCOME", net.register(0, 8), 2);
        net = with(new Code().stack(32766, FROM, 4).opr(MOVE), 1, new int[][] {});
        Check.due("read as 0 ahead", Code.word(net, 0, FROM), 0);
        Check.due("then as it is", Code.word(net, 0, FROM + 2), MINT);
        Check.due("OUTCOME", net.register(0, 8), 2);
        net = with(new Code().stack(36862, FROM, 4).opr(MOVE), 1, new int[][] {{36862, 0x5566}});
        Check.due("read up to the edge", Code.word(net, 0, FROM), 0x5566);
        Check.due("then as 0", Code.word(net, 0, FROM + 2), 0);
        net = with(new Code().stack(36860, 36856, 4).opr(MOVE), 1, new int[][] {{36862, 0x5566}});
        Check.due("to the last byte", Code.word(net, 0, 36858), 0x5566);
        Check.due("is within", net.register(0, 8), 0);
    }

    /** Addresses turn over behind 65535, and come to 0, not to the memory. */
    private static void copyTurnsOver() {
        TransputerNet net = with(new Code().stack(65534, FROM, 4).opr(MOVE), 1, new int[][] {});
        Check.due("0s", Code.word(net, 0, FROM) + Code.word(net, 0, FROM + 2), 0);
        Check.due("the next byte stays", net.peek(0, FROM + 4), 5);
        Check.due("OUTCOME", net.register(0, 8), 2);
    }

    private static void channelBeyond() {
        int[] beyond = {0, 32766, 36864, 65534};
        for (int channel : beyond) {
            TransputerNet net = with(new Code().stack(TO, channel, 2).opr(IN).ldc(5), 1,
                    new int[][] {});
            Check.due("in of " + channel, net.register(0, 8), 2);
            Check.due("nothing is behind it", net.register(0, 0), TO);
            net = with(new Code().stack(FROM, channel, 2).opr(OUT).ldc(5), 1, new int[][] {});
            Check.due("out of " + channel, net.register(0, 8), 2);
        }
    }

    /** Only 32769, 32770 and 32771 are states; the words beside them are addresses. */
    private static void statesAndAddresses() {
        int[] addresses = {32768, 32772};
        for (int address : addresses) {
            TransputerNet net = with(communicate(OUT, FROM, 2), 1, waiting(address));
            Check.due("bytes to " + address, Code.word(net, 0, address), 0x0201);
            Check.due("the word is MINT", Code.word(net, 0, CHANNEL), MINT);
            Check.due("the partner is ready", net.register(0, 11), OTHER);
            Check.due("it goes on", net.register(0, 6), 1);
        }
        int[][] states = {{32769, MINT}, {32770, OTHER}, {32771, MINT}};
        for (int[] p : states) {
            TransputerNet net = with(communicate(OUT, FROM, 2), 0, waiting(p[0]));
            Check.due("state " + p[0], Code.word(net, 0, OTHER - 6), 32771);
            Check.due("OWN waits", Code.word(net, 0, CHANNEL), Code.W);
            Check.due("no bytes", Code.word(net, 0, p[0] & 65534), MINT);
            Check.due("who is ready", net.register(0, 11), p[1]);
        }
        TransputerNet net = with(communicate(IN, TO, 2), 1, waiting(32770));
        Check.due("an in knows no states", Code.word(net, 0, TO), MINT);
    }

    /** The word at x - 6 is beyond the memory, for one whose workspace is at its beginning. */
    private static void pointerBeyond() {
        TransputerNet net = with(communicate(IN, TO, 2), 1, new int[][] {{CHANNEL, 32772}});
        Check.due("x - 6 below the memory", net.register(0, 8), 2);
        Check.due("0s came", Code.word(net, 0, TO), 0);
        Check.due("it is ready", net.register(0, 9), 32772);
        net = with(communicate(IN, TO, 2), 1, new int[][] {{CHANNEL, 32774}, {32768, FROM}});
        Check.due("x - 6 at the beginning", net.register(0, 8), 0);
        Check.due("what came", Code.word(net, 0, TO), 0x0201);
    }

    /** "MINT without one". */
    private static void resetOfNone() {
        for (int channel = 32768; channel <= 32782; channel += 2) {
            TransputerNet net = new Code().stack(3, 4, channel).opr(18).done(1);
            Check.due("resetch of link's " + channel, net.register(0, 0), MINT);
            Check.due("B stays", net.register(0, 1), 4);
        }
        TransputerNet net = with(new Code().stack(3, 4, CHANNEL).opr(18), 1, new int[][] {});
        Check.due("resetch of a word with none", net.register(0, 0), MINT);
    }

    private static void resetBeyond() {
        TransputerNet net = with(new Code().stack(3, 4, 36864).opr(18), 1, new int[][] {});
        Check.due("resetch beyond", net.register(0, 0), 0);
        Check.due("OUTCOME", net.register(0, 8), 2);
    }
}
