import java.io.ByteArrayOutputStream;

/** A small assembler: writes instructions with the prefixes that their operands need. */
final class Code {
    static final int AT = 32804;
    static final int W = 36000;
    static final int MINT = 32768;
    private static final int LAST_EIGHT = 36856;

    static final int J = 0;
    static final int LDLP = 1;
    static final int PFIX = 2;
    static final int LDNL = 3;
    static final int LDC = 4;
    static final int LDNLP = 5;
    static final int NFIX = 6;
    static final int LDL = 7;
    static final int ADC = 8;
    static final int CALL = 9;
    static final int CJ = 10;
    static final int AJW = 11;
    static final int EQC = 12;
    static final int STL = 13;
    static final int STNL = 14;
    static final int OPR = 15;

    private final ByteArrayOutputStream bytes = new ByteArrayOutputStream();

    /** Words of 32768 and more may be given as they are: they take the shorter, negative form. */
    Code f(int function, int operand) {
        int value = (short) operand;
        if (value >= 16) {
            prefix(PFIX, value >> 4);
        } else if (value < 0) {
            prefix(NFIX, ~value >> 4);
        }
        return raw(function << 4 | value & 15);
    }

    private void prefix(int function, int value) {
        if (value >= 16) {
            prefix(PFIX, value >> 4);
        } else if (value < 0) {
            prefix(NFIX, ~value >> 4);
        }
        raw(function << 4 | value & 15);
    }

    Code raw(int value) {
        bytes.write(value);
        return this;
    }

    Code ldc(int value) {
        return f(LDC, value);
    }

    Code stl(int place) {
        return f(STL, place);
    }

    Code ldl(int place) {
        return f(LDL, place);
    }

    Code opr(int... operations) {
        for (int operation : operations) {
            f(OPR, operation);
        }
        return this;
    }

    /** C, B, A in this order. */
    Code stack(int c, int b, int a) {
        return ldc(c).ldc(b).ldc(a);
    }

    Code stop() {
        return opr(21);
    }

    /** As many instructions as the code has bytes, if it has no jumps. */
    int size() {
        return bytes.size();
    }

    byte[] toBytes() {
        return bytes.toByteArray();
    }

    void load(TransputerNet net, int node, int address) {
        byte[] all = bytes.toByteArray();
        for (int k = 0; k < all.length; k += 8) {
            long v = 0;
            for (int m = 0; m < 8 && k + m < all.length; m++) {
                v |= (all[k + m] & 255L) << (8 * m);
            }
            if (!net.put(node, address + k, v)) {
                throw new IllegalStateException("the code has no room");
            }
        }
    }

    /** Loads the code at AT and starts it there, with W as its workspace. */
    Code begin(TransputerNet net, int node, int priority) {
        load(net, node, AT);
        if (!net.start(node, AT, W, priority)) {
            throw new IllegalStateException("the node does not start");
        }
        return this;
    }

    /** A net of one node that has executed this code, all its bytes once. */
    TransputerNet done(int priority) {
        TransputerNet net = new TransputerNet(1);
        begin(net, 0, priority);
        net.run(size());
        return net;
    }

    static int word(TransputerNet net, int node, int address) {
        return net.peek(node, address) | net.peek(node, address + 1) << 8;
    }

    static void setWord(TransputerNet net, int node, int address, int value) {
        int base = Math.min(address, LAST_EIGHT);
        long v = 0;
        for (int k = 7; k >= 0; k--) {
            int at = base + k - address;
            int old = net.peek(node, base + k);
            v = v << 8 | (at == 0 ? value & 255 : at == 1 ? value >> 8 & 255 : old);
        }
        net.put(node, base, v);
    }

    static boolean sendBytes(TransputerNet net, int... values) {
        boolean all = true;
        for (int value : values) {
            all &= net.send(value, 1);
        }
        return all;
    }

    static void runMore(TransputerNet net, int ticks) {
        for (int left = ticks; left > 0; left -= 1000) {
            net.run(Math.min(left, 1000));
        }
    }
}
