/** Part 3 of the document's terms: channels in memory (promises 5, 6, 7, 8). */
public final class ChannelTest {
    private static final int OTHER = 35000;
    private static final int CHANNEL = 34500;
    private static final int FROM = 34100;
    private static final int TO = 34200;
    private static final int MINT = Code.MINT;

    public static void main(String[] args) {
        waitsAndMeets(7, 11);
        waitsAndMeets(11, 7);
        bytesAndWords();
        bytesToOneThatWaits();
        mostBytes();
        tooLong();
        ofNoBytes();
        resetOfAWord();
        copiesTakeTime();
        Check.finish();
    }

    private static TransputerNet prepared(Code first, int priority, Code second) {
        TransputerNet net = new TransputerNet(1);
        first.begin(net, 0, priority);
        second.load(net, 0, 33200);
        Code.setWord(net, 0, OTHER - 2, 33200);
        Code.setWord(net, 0, CHANNEL, MINT);
        net.put(0, FROM, 0x0807060504030201L);
        return net;
    }

    private static int pointer(int operation) {
        return operation == 7 ? TO : FROM;
    }

    /** The one that comes first waits in the channel's word, the other copies and frees it. */
    private static void waitsAndMeets(int early, int late) {
        String name = early == 7 ? "in first: " : "out first: ";
        Code first = new Code().ldc(OTHER | 1).opr(57)
                .stack(pointer(early), CHANNEL + 1, 5).opr(early);
        int parted = first.size();
        first.stack(3, 4, 5);
        Code second = new Code().stack(pointer(late), CHANNEL, 5).opr(late).ldc(6);
        TransputerNet net = prepared(first, 1, second);
        net.run(parted);
        Check.due(name + "none runs", net.register(0, 6), 2);
        Check.due(name + "OWN in the word", Code.word(net, 0, CHANNEL), Code.W | 1);
        Check.due(name + "the pointer in W[-3]", Code.word(net, 0, Code.W - 6), pointer(early));
        Check.due(name + "I in W[-1]", Code.word(net, 0, Code.W - 2), Code.AT + parted);
        Check.due(name + "popped ahead of the wait", net.register(0, 0), pointer(early));
        net.run(second.size() - 1);
        Check.due(name + "the word is MINT", Code.word(net, 0, CHANNEL), MINT);
        Check.due(name + "the second goes on", net.register(0, 5), OTHER);
        Check.due(name + "the second popped", net.register(0, 1), pointer(late));
        Check.due(name + "the first is ready", net.register(0, 11), Code.W);
        for (int k = 0; k < 6; k++) {
            Check.due(name + "byte " + k, net.peek(0, TO + k), k < 5 ? k + 1 : 0);
        }
        Check.due(name + "busy", net.register(0, 20), 1);
        net.run(1);
        Check.due(name + "nothing in the busy tick", net.register(0, 0), pointer(late));
        net.run(1);
        Check.due(name + "then on", net.register(0, 0), 6);
    }

    private static void bytesAndWords() {
        for (int operation = 14; operation <= 15; operation++) {
            int count = operation - 13;
            Code first = new Code().ldc(OTHER).opr(57).stack(8, CHANNEL, 0x1234).opr(operation);
            int parted = first.size();
            Code second = new Code().stack(TO, CHANNEL, count).opr(7).ldc(6);
            TransputerNet net = prepared(first, 0, second);
            net.put(0, TO, -1);
            net.run(parted);
            Check.due("outbyte: W[0]", Code.word(net, 0, Code.W), 0x1234);
            Check.due("outbyte: OWN of a high one", Code.word(net, 0, CHANNEL), Code.W);
            Check.due("outbyte: the pointer is W", Code.word(net, 0, Code.W - 6), Code.W);
            Check.due("outbyte: popped", net.register(0, 0), 8);
            Check.due("outbyte: O is 0", net.register(0, 3), 0);
            net.run(second.size());
            Check.due("what came of " + operation, Code.word(net, 0, TO),
                    count == 1 ? 0xFF34 : 0x1234);
            Check.due("the sender is ready", net.register(0, 9), Code.W);
            Check.due("the receiver went on", net.register(0, 0), 6);
        }
    }

    private static void bytesToOneThatWaits() {
        for (int operation = 14; operation <= 15; operation++) {
            Code first = new Code().ldc(OTHER).opr(57).stack(TO, CHANNEL, 2).opr(7);
            Code second = new Code().stack(8, CHANNEL, 0x1234).opr(operation).ldc(6);
            TransputerNet net = prepared(first, 0, second);
            net.put(0, TO, -1);
            net.run(first.size() + second.size());
            Check.due("as many as are sent", Code.word(net, 0, TO),
                    operation == 14 ? 0xFF34 : 0x1234);
            Check.due("and both go on", net.register(0, 0), 6);
            Check.due("popped", net.register(0, 1), 8);
        }
    }

    private static void mostBytes() {
        for (int operation = 7; operation <= 11; operation += 4) {
            Code code = new Code().stack(TO, CHANNEL, 4096).opr(operation);
            TransputerNet net = prepared(code, 1, new Code());
            net.run(code.size());
            Check.due("4096 are not too many", net.register(0, 8), 0);
            Check.due("it waits", net.register(0, 6), 2);
        }
    }

    private static void tooLong() {
        int[] operations = {7, 11};
        int[] channels = {CHANNEL, 32768, 32776};
        for (int operation : operations) {
            for (int channel : channels) {
                Code code = new Code().stack(TO, channel, 4097).opr(operation).ldc(1);
                TransputerNet net = prepared(code, 1, new Code());
                net.run(code.size());
                Check.due("4097 bytes, OUTCOME", net.register(0, 8), 5);
                Check.due("4097 bytes, A", net.register(0, 0), 4097);
                Check.due("4097 bytes, B", net.register(0, 1), channel);
                Check.due("4097 bytes, C", net.register(0, 2), TO);
                Check.due("4097 bytes, O", net.register(0, 3), 0);
                Check.due("4097 bytes, it runs", net.register(0, 6), 1);
                Check.due("4097 bytes, nothing to go", net.link(0, 0, 0), 0);
                Check.due("4097 bytes, nothing to come", net.link(0, 0, 1), 0);
                Check.due("4097 bytes, the channel", Code.word(net, 0, CHANNEL), MINT);
            }
        }
    }

    /** A word that is not a link's is looked at even then; a link is not. */
    private static void ofNoBytes() {
        Code code = new Code().stack(TO, CHANNEL, 0).opr(7);
        TransputerNet net = prepared(code, 1, new Code());
        net.run(code.size());
        Check.due("in of none waits", Code.word(net, 0, CHANNEL), Code.W | 1);
        for (int channel = 32768; channel <= 32782; channel += 2) {
            code = new Code().stack(TO, channel, 0).opr(7).stack(FROM, channel, 0).opr(11).ldc(9);
            net = prepared(code, 1, new Code());
            net.run(code.size());
            Check.due("none of a link goes on", net.register(0, 0), 9);
            Check.due("none of a link pops", net.register(0, 1), FROM);
        }
    }

    private static void resetOfAWord() {
        Code code = new Code().stack(3, 4, CHANNEL + 1).opr(18);
        TransputerNet net = prepared(code, 1, new Code());
        Code.setWord(net, 0, CHANNEL, 34567);
        net.run(code.size());
        Check.due("resetch, the word", Code.word(net, 0, CHANNEL), MINT);
        Check.due("resetch, A", net.register(0, 0), 34567);
        Check.due("resetch, B", net.register(0, 1), 4);
        Check.due("resetch, C", net.register(0, 2), 3);
    }

    /** While a node is busy there is no NEXT: a high one that is freed must wait for its turn. */
    private static void copiesTakeTime() {
        Code first = new Code().ldc(OTHER | 1).opr(57).stack(TO, CHANNEL, 43).opr(7);
        Code second = new Code().stack(FROM, CHANNEL, 43).opr(11).ldc(6);
        TransputerNet net = prepared(first, 0, second);
        net.run(first.size() + second.size() - 1);
        Check.due("43 bytes", net.register(0, 20), 10);
        Check.due("the high one is ready", net.register(0, 9), Code.W);
        net.run(10);
        Check.due("no NEXT yet", net.register(0, 17), 0);
        Check.due("its time is over", net.register(0, 20), 0);
        net.run(1);
        Check.due("now it is", net.register(0, 17), 1);
        Check.due("the high one runs", net.register(0, 5), Code.W);
    }
}
