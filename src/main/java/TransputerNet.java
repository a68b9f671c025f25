/** A net of 16-bit nodes wired by links of single bits; README.md says how to use it. */
public final class TransputerNet {
    public static final int NONE = -1;

    private static final int MOST_NODES = 8;
    private static final int MOST_TICKS = 1000;
    private static final int LINKS = 4;
    /** As which node the host is named to a link that is wired to it. */
    private static final int HOST_NUMBER = 8;
    private static final int NO_SUCH_REGISTER = -2;
    private static final int NO_SUCH_LINK = -2;
    private static final int NO_SUCH_LINK_FACT = -3;

    private static final int WORD = 65535;
    private static final int EVEN = 65534;
    private static final int MINT = 32768;
    private static final int MEMORY_BYTES = 4096;
    private static final int MEMORY_CELLS = 512;
    private static final int LAST_RESERVED = 32802;
    private static final int FIRST_INPUT = 32776;
    private static final int BOOT_CODE = 32804;
    private static final int BOOT_A = 32768;
    private static final int BOOT_B = 32769;

    private static final int HIGH = 0;
    private static final int LOW = 1;
    private static final int NOBODY = 2;
    private static final int FULL_SLICE = 256;
    private static final int MOST_COPIED = 4096;
    private static final int MOST_TIMED = 64;

    /** What a process in an alternative, or one that waits for a time, has in W[-3]. */
    private static final int ENABLING = 32769;
    private static final int WAITING = 32770;
    private static final int DONE = 32771;
    /** What it has in W[-4]. */
    private static final int TIME_GIVEN = 32769;
    private static final int NO_TIME = 32770;
    /** What it has in W[0] until a guard is chosen. */
    private static final int NOT_CHOSEN = 65535;

    private static final int UNKNOWN_OPERATION = 1;
    private static final int BEYOND_MEMORY = 2;
    private static final int LINK_ENGAGED = 3;
    private static final int TOO_MANY_TIMED = 4;
    private static final int TOO_LONG = 5;
    private static final int HALTED = 6;

    private static final int DATA_BITS = 11;
    private static final int DATA_HEAD = 3;
    private static final int ACKNOWLEDGEMENT_BITS = 2;
    private static final int ACKNOWLEDGEMENT = 1;
    /** What reading a bit tells, beside a byte. */
    private static final int NOTHING_YET = -1;
    private static final int ACKNOWLEDGED = -2;

    private static final int POKE = 0;
    private static final int PEEK = 1;

    private final Node[] nodes;
    private final Host host;
    private int ticksMade;

    public TransputerNet(int nodes) {
        int count = Math.max(1, Math.min(MOST_NODES, nodes));
        Node[] made = new Node[count];
        for (int k = 0; k < count; k++) {
            made[k] = newNode();
        }
        this.nodes = made;
        this.host = new Host();
    }

    public boolean wire(int a, int link, int b, int other) {
        End one = endAt(a, link);
        End two = b == NONE ? host.end : endAt(b, other);
        if (one == null || two == null || one == two) {
            return false;
        }
        if (one.isWired() || two.isWired()) {
            return false;
        }
        one.join(two, b == NONE ? HOST_NUMBER : b);
        two.join(one, a);
        return true;
    }

    public boolean send(long v, int n) {
        if (n < 0 || n > 8 || !host.hasRoomFor(n)) {
            return false;
        }
        for (int k = 0; k < n; k++) {
            host.append((int) (v >>> (8 * k)) & 255);
        }
        return true;
    }

    public boolean put(int node, int address, long v) {
        Node target = nodeAt(node);
        if (target == null || !isInMemory(address) || address > MINT + MEMORY_BYTES - 8) {
            return false;
        }
        for (int k = 0; k < 8; k++) {
            target.core.memory.setByte(address + k, (int) (v >>> (8 * k)) & 255);
        }
        return true;
    }

    public boolean start(int node, int i, int w, int priority) {
        Node target = nodeAt(node);
        if (target == null || !isWord(i) || !isWord(w) || (priority != HIGH && priority != LOW)) {
            return false;
        }
        if (!target.isStartable()) {
            return false;
        }
        target.launch(i, w, priority);
        return true;
    }

    public int run(int ticks) {
        if (ticks < 0 || ticks > MOST_TICKS) {
            return NONE;
        }
        for (int k = 0; k < ticks; k++) {
            ticksMade++;
            passBits();
            for (Node node : nodes) {
                node.takeBootByte();
                node.changeClocks(ticksMade);
            }
            for (Node node : nodes) {
                if (node.prepareTurn()) {
                    node.processor.execute();
                }
            }
        }
        return ticksMade;
    }

    public int register(int node, int what) {
        Node target = nodeAt(node);
        if (target == null) {
            return NONE;
        }
        if (what >= 0 && what <= 8) {
            return target.core.processorFact(what);
        }
        if (what == 18) {
            return target.boots ? 1 : 0;
        }
        return target.core.schedulerFact(what);
    }

    public int peek(int node, int address) {
        Node target = nodeAt(node);
        if (target == null || !isInMemory(address)) {
            return NONE;
        }
        return target.core.memory.byteAt(address);
    }

    public int link(int node, int link, int what) {
        Link target = linkAt(node, link);
        if (target == null) {
            return NO_SUCH_LINK;
        }
        return target.fact(what);
    }

    public int out(int i) {
        return host.keptAt(i);
    }

    private static Node newNode() {
        Core core = new Core();
        for (int address = MINT; address <= LAST_RESERVED; address += 2) {
            core.memory.setWord(address, MINT);
        }
        Link[] links = new Link[LINKS];
        for (int k = 0; k < LINKS; k++) {
            links[k] = new Link(core);
        }
        return new Node(core, links, new Processor(core, new Channels(core, links)));
    }

    private static boolean isWord(int value) {
        return value >= 0 && value <= WORD;
    }

    private static boolean isInMemory(int address) {
        return address >= MINT && address < MINT + MEMORY_BYTES;
    }

    private static int signed(int word) {
        return (short) word;
    }

    private static boolean isLater(int x, int y) {
        return signed(x - y) > 0;
    }

    private Node nodeAt(int node) {
        if (node < 0 || node >= nodes.length) {
            return null;
        }
        return nodes[node];
    }

    private Link linkAt(int node, int link) {
        Node target = nodeAt(node);
        if (target == null || link < 0 || link >= LINKS) {
            return null;
        }
        return target.links[link];
    }

    private End endAt(int node, int link) {
        Link target = linkAt(node, link);
        return target == null ? null : target.end;
    }

    /** All bits are put before any is read, so that no end hears another's bit a tick early. */
    private void passBits() {
        for (Node node : nodes) {
            for (Link each : node.links) {
                each.putBit();
            }
        }
        host.putBit();
        for (Node node : nodes) {
            for (Link each : node.links) {
                each.takeBit();
            }
        }
        host.takeBit();
    }

    /** 4096 bytes from address MINT on, eight to a cell so that many nets fit into one room. */
    private static final class Memory {
        private final long[] cells = new long[MEMORY_CELLS];
        /** Never cleared: the node stops at the first time, and no later one counts. */
        private boolean wentBeyond;

        int byteAt(int address) {
            int offset = (address & WORD) - MINT;
            if (offset < 0 || offset >= MEMORY_BYTES) {
                wentBeyond = true;
                return 0;
            }
            return (int) (cells[offset >> 3] >>> ((offset & 7) << 3)) & 255;
        }

        int wordAt(int address) {
            int offset = (address & EVEN) - MINT;
            if (offset < 0 || offset >= MEMORY_BYTES) {
                wentBeyond = true;
                return 0;
            }
            return (int) (cells[offset >> 3] >>> ((offset & 7) << 3)) & WORD;
        }

        void setByte(int address, int value) {
            int offset = (address & WORD) - MINT;
            if (offset < 0 || offset >= MEMORY_BYTES) {
                wentBeyond = true;
                return;
            }
            int shift = (offset & 7) << 3;
            long others = cells[offset >> 3] & ~(255L << shift);
            cells[offset >> 3] = others | ((value & 255L) << shift);
        }

        void setWord(int address, int value) {
            int offset = (address & EVEN) - MINT;
            if (offset < 0 || offset >= MEMORY_BYTES) {
                wentBeyond = true;
                return;
            }
            int shift = (offset & 7) << 3;
            long others = cells[offset >> 3] & ~(65535L << shift);
            cells[offset >> 3] = others | ((value & 65535L) << shift);
        }

        /** Byte by byte, since the two places may overlap. */
        void copy(int from, int to, int count) {
            for (int k = 0; k < count; k++) {
                setByte(to + k, byteAt(from + k));
            }
        }
    }

    /** What a process has while it runs, or on the shelf. */
    private static final class Registers {
        private int a;
        private int b;
        private int c;
        private int o;
        private int i;
        private int w;
        private int priority = NOBODY;
        private int slice;

        void push(int value) {
            c = b;
            b = a;
            a = value & WORD;
        }

        void pop() {
            a = b;
            b = c;
        }

        /** Two pops and three leave the same: C in all of them. */
        void popAll() {
            a = c;
            b = c;
        }

        void replaceTwo(int value) {
            a = value & WORD;
            b = c;
        }

        void jump(int distance) {
            i = (i + distance) & WORD;
        }

        void setWorkspace(int address) {
            w = address & EVEN;
        }

        void begin(int newI, int newW, int newPriority) {
            i = newI;
            w = newW & EVEN;
            priority = newPriority;
            o = 0;
            slice = 0;
        }

        void setStack(int newA, int newB, int newC) {
            a = newA;
            b = newB;
            c = newC;
        }

        void copyFrom(Registers other) {
            setStack(other.a, other.b, other.c);
            o = other.o;
            i = other.i;
            w = other.w;
            priority = other.priority;
            slice = other.slice;
        }
    }

    /** The two ends of a row of workspaces that are chained through the node's memory. */
    private static final class Queue {
        private int front = MINT;
        private int back = MINT;

        boolean isEmpty() {
            return front == MINT;
        }
    }

    /** Both clocks, and those that wait for a time, in the order in which they came. */
    private static final class Timers {
        private final int[] descriptors = new int[MOST_TIMED];
        private final int[] times = new int[MOST_TIMED];
        private int count;
        private int highClock;
        private int lowClock;

        int clockOf(int priority) {
            return priority == HIGH ? highClock : lowClock;
        }

        void setClocks(int time) {
            highClock = time;
            lowClock = time;
        }

        void advance(int priority) {
            if (priority == HIGH) {
                highClock = (highClock + 1) & WORD;
            } else {
                lowClock = (lowClock + 1) & WORD;
            }
        }

        boolean add(int descriptor, int time) {
            if (count < 0 || count >= MOST_TIMED) {
                return false;
            }
            descriptors[count] = descriptor;
            times[count] = time;
            count++;
            return true;
        }

        void drop(int descriptor) {
            int left = 0;
            for (int k = 0; k < count && k < MOST_TIMED; k++) {
                if (descriptors[k] != descriptor) {
                    keep(k, left);
                    left++;
                }
            }
            count = left;
        }

        /** Takes those that are due out of the row; their processes are woken by the core. */
        void release(int priority, Core core) {
            int clock = clockOf(priority);
            int left = 0;
            for (int k = 0; k < count && k < MOST_TIMED; k++) {
                if ((descriptors[k] & 1) == priority && isLater(clock, times[k])) {
                    core.wakeAtTime(descriptors[k], clock);
                } else {
                    keep(k, left);
                    left++;
                }
            }
            count = left;
        }

        private void keep(int from, int to) {
            if (from < 0 || from >= MOST_TIMED || to < 0 || to >= MOST_TIMED) {
                return;
            }
            descriptors[to] = descriptors[from];
            times[to] = times[from];
        }
    }

    /** A node's state but for its links, and how its processes come and go. */
    private static final class Core {
        private final Memory memory = new Memory();
        private final Registers now = new Registers();
        private final Registers shelf = new Registers();
        private final Queue high = new Queue();
        private final Queue low = new Queue();
        private final Timers timers = new Timers();
        private boolean error;
        private boolean halt;
        private int outcome;
        private int busy;
        private int executed;

        boolean hasProcess() {
            return now.priority != NOBODY;
        }

        int own() {
            return now.w | (now.priority & 1);
        }

        int clock() {
            return timers.clockOf(now.priority);
        }

        int local(int k) {
            return memory.wordAt(now.w + 2 * k);
        }

        void setLocal(int k, int value) {
            memory.setWord(now.w + 2 * k, value);
        }

        void makeReady(int descriptor) {
            Queue queue = (descriptor & 1) == HIGH ? high : low;
            int workspace = descriptor & EVEN;
            if (queue.isEmpty()) {
                queue.front = workspace;
            } else {
                memory.setWord(queue.back - 4, workspace);
            }
            queue.back = workspace;
        }

        void leaveWaiting() {
            memory.setWord(now.w - 2, now.i);
            now.priority = NOBODY;
        }

        void yieldIfSliced() {
            if (now.priority == LOW && now.slice >= FULL_SLICE) {
                int descriptor = own();
                leaveWaiting();
                makeReady(descriptor);
            }
        }

        void chooseNext() {
            if (now.priority == LOW && !high.isEmpty()) {
                shelf.copyFrom(now);
                now.priority = NOBODY;
            }
            if (hasProcess()) {
                return;
            }
            if (!high.isEmpty()) {
                resumeFirst(high, HIGH);
            } else if (shelf.priority != NOBODY) {
                now.copyFrom(shelf);
                shelf.priority = NOBODY;
            } else if (!low.isEmpty()) {
                resumeFirst(low, LOW);
            }
        }

        private void resumeFirst(Queue queue, int priority) {
            int first = queue.front;
            queue.front = first == queue.back ? MINT : memory.wordAt(first - 4);
            now.begin(memory.wordAt((first & EVEN) - 2), first, priority);
        }

        void stopWith(int why) {
            if (outcome == 0) {
                outcome = why;
            }
        }

        void stopIfBeyond() {
            if (memory.wentBeyond) {
                stopWith(BEYOND_MEMORY);
            }
        }

        void copyBytes(int from, int to, int count) {
            memory.copy(from, to, count);
            busy = count / 4;
        }

        /** Tells a process in an alternative of a partner; false if it is in none. */
        boolean alert(int descriptor) {
            int place = (descriptor & EVEN) - 6;
            int state = memory.wordAt(place);
            if (state == DONE) {
                return true;
            }
            if (state != ENABLING && state != WAITING) {
                return false;
            }
            memory.setWord(place, DONE);
            timers.drop(descriptor);
            if (state == WAITING) {
                makeReady(descriptor);
            }
            return true;
        }

        void waitForTime(int time) {
            int descriptor = own();
            leaveWaiting();
            if (!timers.add(descriptor, time)) {
                stopWith(TOO_MANY_TIMED);
            }
        }

        void wakeAtTime(int descriptor, int clock) {
            int workspace = descriptor & EVEN;
            memory.setWord(workspace - 6, DONE);
            memory.setWord(workspace - 10, clock);
            makeReady(descriptor);
        }

        void strikeClock(int priority) {
            timers.advance(priority);
            timers.release(priority, this);
        }

        int processorFact(int what) {
            switch (what) {
                case 0: return now.a;
                case 1: return now.b;
                case 2: return now.c;
                case 3: return now.o;
                case 4: return now.i;
                case 5: return now.w;
                case 6: return now.priority;
                case 7: return error ? 1 : 0;
                default: return outcome;
            }
        }

        int schedulerFact(int what) {
            switch (what) {
                case 9: return high.front;
                case 10: return high.back;
                case 11: return low.front;
                case 12: return low.back;
                case 13: return timers.clockOf(HIGH);
                case 14: return timers.clockOf(LOW);
                case 15: return now.slice;
                case 16: return timers.count;
                case 17: return shelf.priority != NOBODY ? 1 : 0;
                case 19: return executed;
                case 20: return busy;
                default: return NO_SUCH_REGISTER;
            }
        }
    }

    /** One end of a line: the packets that it puts and reads, bit by bit. */
    private static final class End {
        private End other;
        private int otherNode = NONE;
        private int packet;
        private int packetBits;
        private int bitsPut;
        private int bit;
        private int owed;
        private boolean waitsForAcknowledgement;
        private int bitsRead;
        private int gathered;

        boolean isWired() {
            return other != null;
        }

        void join(End newOther, int node) {
            other = newOther;
            otherNode = node;
        }

        boolean mayBeginData() {
            return packetBits == 0 && owed == 0 && !waitsForAcknowledgement;
        }

        void beginData(int value) {
            packet = DATA_HEAD | (value << 2);
            packetBits = DATA_BITS;
            waitsForAcknowledgement = true;
        }

        void putNextBit() {
            if (packetBits == 0 && owed > 0) {
                owed--;
                packet = ACKNOWLEDGEMENT;
                packetBits = ACKNOWLEDGEMENT_BITS;
            }
            bit = packet & 1;
            packet >>= 1;
            if (packetBits == 0) {
                return;
            }
            bitsPut++;
            if (bitsPut == packetBits) {
                bitsPut = 0;
                packetBits = 0;
            }
        }

        /** The byte that the bit ended, or ACKNOWLEDGED if that is awaited, or NOTHING_YET. */
        int readNextBit() {
            int heard = other == null ? 0 : other.bit;
            if (bitsRead == 0) {
                bitsRead = heard;
                gathered = 0;
                return NOTHING_YET;
            }
            if (bitsRead == 1 && heard == 0) {
                bitsRead = 0;
                return endOfAcknowledgement();
            }
            if (bitsRead >= 2 && bitsRead < DATA_BITS - 1) {
                gathered |= heard << (bitsRead - 2);
            }
            bitsRead++;
            if (bitsRead < DATA_BITS) {
                return NOTHING_YET;
            }
            bitsRead = 0;
            return gathered;
        }

        private int endOfAcknowledgement() {
            boolean isAwaited = waitsForAcknowledgement;
            waitsForAcknowledgement = false;
            return isAwaited ? ACKNOWLEDGED : NOTHING_YET;
        }
    }

    /** A link engine: what processes gave to its output and its input. */
    private static final class Link {
        private final Core core;
        private final End end = new End();
        private int sender = NONE;
        private int toSend;
        private int sendFrom;
        /** The word of a PEEK, that goes as it was when it was asked for. */
        private int peeked = NONE;
        /** The byte on its way is of a process that resetch took away. */
        private boolean isStray;
        private int receiver = NONE;
        private int toReceive;
        private int receiveTo;
        private int kept = NONE;
        private int guard = NONE;

        Link(Core core) {
            this.core = core;
        }

        void putBit() {
            if (toSend > 0 && end.mayBeginData()) {
                end.beginData(peeked == NONE ? core.memory.byteAt(sendFrom) : peeked & 255);
            }
            end.putNextBit();
        }

        void takeBit() {
            int told = end.readNextBit();
            if (told == ACKNOWLEDGED) {
                acknowledge();
            } else if (told != NOTHING_YET) {
                accept(told);
            }
        }

        private void acknowledge() {
            if (isStray) {
                isStray = false;
                return;
            }
            toSend--;
            sendFrom++;
            if (peeked != NONE) {
                peeked >>= 8;
            }
            if (toSend == 0) {
                finishSending();
            }
        }

        private void finishSending() {
            int finished = sender;
            sender = NONE;
            peeked = NONE;
            if (finished != NONE) {
                core.makeReady(finished);
            }
        }

        private void accept(int value) {
            if (receiver == NONE) {
                keep(value);
                return;
            }
            int process = receiver;
            deliver(value);
            if (receiver == NONE) {
                core.makeReady(process);
            }
        }

        private void keep(int value) {
            kept = value;
            if (guard != NONE) {
                core.alert(guard);
                guard = NONE;
            }
        }

        /** Whoever takes a byte owes the other end an acknowledgement. */
        void deliver(int value) {
            core.memory.setByte(receiveTo, value);
            end.owed++;
            receiveTo++;
            toReceive--;
            if (toReceive == 0) {
                receiver = NONE;
            }
        }

        int releaseKept() {
            int value = kept;
            kept = NONE;
            return value;
        }

        void beginSending(int process, int count, int from) {
            sender = process;
            toSend = count;
            sendFrom = from;
        }

        void sendWord(int word) {
            peeked = word;
            toSend = 2;
        }

        void beginReceiving(int process, int count, int to) {
            receiver = process;
            toReceive = count;
            receiveTo = to;
        }

        int resetOutput() {
            int was = sender;
            sender = NONE;
            toSend = 0;
            isStray = end.waitsForAcknowledgement;
            return was == NONE ? MINT : was;
        }

        int resetInput() {
            int was = receiver;
            receiver = NONE;
            toReceive = 0;
            kept = NONE;
            guard = NONE;
            return was == NONE ? MINT : was;
        }

        int fact(int what) {
            switch (what) {
                case 0: return toSend;
                case 1: return toReceive;
                case 2: return kept;
                case 3: return guard == NONE ? 0 : 1;
                case 4: return end.bitsPut;
                case 5: return end.bitsRead;
                case 6: return end.otherNode;
                default: return NO_SUCH_LINK_FACT;
            }
        }
    }

    /** The end outside: bytes that wait to go, in a ring, and those that came. */
    private static final class Host {
        private final End end = new End();
        private final Memory waiting = new Memory();
        private int firstWaiting;
        private int waitingCount;
        private final Memory kept = new Memory();
        private int keptCount;

        boolean hasRoomFor(int count) {
            return waitingCount + count <= MEMORY_BYTES;
        }

        void append(int value) {
            waiting.setByte(MINT + (firstWaiting + waitingCount) % MEMORY_BYTES, value);
            waitingCount++;
        }

        int keptAt(int index) {
            if (index < 0 || index >= keptCount) {
                return NONE;
            }
            return kept.byteAt(MINT + index);
        }

        void putBit() {
            if (waitingCount > 0 && end.mayBeginData()) {
                end.beginData(waiting.byteAt(MINT + firstWaiting));
            }
            end.putNextBit();
        }

        void takeBit() {
            int told = end.readNextBit();
            if (told == ACKNOWLEDGED) {
                dropFirst();
            } else if (told != NOTHING_YET) {
                keep(told);
            }
        }

        private void dropFirst() {
            firstWaiting = (firstWaiting + 1) % MEMORY_BYTES;
            waitingCount--;
        }

        private void keep(int value) {
            end.owed++;
            if (keptCount < MEMORY_BYTES) {
                kept.setByte(MINT + keptCount, value);
                keptCount++;
            }
        }
    }

    /** The operations on channels, alternatives and times, for the process that runs. */
    private static final class Channels {
        private final Core core;
        private final Registers now;
        private final Memory memory;
        private final Link[] links;

        Channels(Core core, Link[] links) {
            this.core = core;
            this.now = core.now;
            this.memory = core.memory;
            this.links = links;
        }

        /** The link that an address of its output or its input names, or null. */
        private Link linkOf(int channel) {
            int index = ((channel & EVEN) - MINT) >> 1;
            if (index < 0 || index >= 2 * LINKS) {
                return null;
            }
            return links[index % LINKS];
        }

        void input() {
            int count = now.a;
            int channel = now.b;
            int to = now.c;
            if (count > MOST_COPIED) {
                core.stopWith(TOO_LONG);
                return;
            }
            Link engine = linkOf(channel);
            if (engine != null) {
                inputFromLink(engine, count, to);
                return;
            }
            int partner = memory.wordAt(channel);
            if (partner == MINT) {
                waitAt(channel, to);
                return;
            }
            core.copyBytes(memory.wordAt((partner & EVEN) - 6), to, count);
            freePartner(channel, partner);
        }

        void output(int count, int channel, int from) {
            if (count > MOST_COPIED) {
                core.stopWith(TOO_LONG);
                return;
            }
            Link engine = linkOf(channel);
            if (engine != null) {
                outputToLink(engine, count, from);
                return;
            }
            int partner = memory.wordAt(channel);
            if (partner == MINT || core.alert(partner)) {
                waitAt(channel, from);
                return;
            }
            core.copyBytes(from, memory.wordAt((partner & EVEN) - 6), count);
            freePartner(channel, partner);
        }

        private void waitAt(int channel, int pointer) {
            memory.setWord(channel, core.own());
            core.setLocal(-3, pointer);
            now.popAll();
            core.leaveWaiting();
        }

        private void freePartner(int channel, int partner) {
            memory.setWord(channel, MINT);
            core.makeReady(partner);
            now.popAll();
        }

        private void inputFromLink(Link engine, int count, int to) {
            now.popAll();
            if (count == 0) {
                return;
            }
            if (engine.receiver != NONE) {
                core.stopWith(LINK_ENGAGED);
                return;
            }
            engine.beginReceiving(core.own(), count, to);
            if (engine.kept != NONE) {
                engine.deliver(engine.releaseKept());
            }
            if (engine.receiver != NONE) {
                core.leaveWaiting();
            }
        }

        private void outputToLink(Link engine, int count, int from) {
            now.popAll();
            if (count == 0) {
                return;
            }
            if (engine.sender != NONE) {
                core.stopWith(LINK_ENGAGED);
                return;
            }
            engine.beginSending(core.own(), count, from);
            core.leaveWaiting();
        }

        void reset() {
            int channel = now.a & EVEN;
            Link engine = linkOf(channel);
            if (engine == null) {
                now.a = memory.wordAt(channel);
                memory.setWord(channel, MINT);
            } else if (channel < FIRST_INPUT) {
                now.a = engine.resetOutput();
            } else {
                now.a = engine.resetInput();
            }
        }

        void enableSkip() {
            if (now.a != 0) {
                core.setLocal(-3, DONE);
            }
        }

        void enableChannel() {
            if (now.a != 0) {
                Link engine = linkOf(now.b);
                if (engine != null) {
                    enableLink(engine);
                } else {
                    enableWord(now.b);
                }
            }
            now.b = now.c;
        }

        private void enableLink(Link engine) {
            if (engine.kept != NONE) {
                core.setLocal(-3, DONE);
            } else {
                engine.guard = core.own();
            }
        }

        private void enableWord(int channel) {
            int partner = memory.wordAt(channel);
            if (partner == MINT) {
                memory.setWord(channel, core.own());
            } else if (partner != core.own()) {
                core.setLocal(-3, DONE);
            }
        }

        void enableTime() {
            if (now.a != 0) {
                if (core.local(-4) == NO_TIME) {
                    core.setLocal(-4, TIME_GIVEN);
                    core.setLocal(-5, now.b);
                } else if (isLater(core.local(-5), now.b)) {
                    core.setLocal(-5, now.b);
                }
            }
            now.b = now.c;
        }

        void waitForGuard() {
            core.setLocal(0, NOT_CHOSEN);
            if (core.local(-3) != DONE) {
                core.setLocal(-3, WAITING);
                core.leaveWaiting();
            }
        }

        void waitForGuardOrTime() {
            core.setLocal(0, NOT_CHOSEN);
            if (core.local(-3) == DONE) {
                core.setLocal(-5, core.clock());
                return;
            }
            boolean isTimed = core.local(-4) == TIME_GIVEN;
            if (isTimed && isLater(core.clock(), core.local(-5))) {
                core.setLocal(-3, DONE);
                core.setLocal(-5, core.clock());
                return;
            }
            core.setLocal(-3, WAITING);
            if (isTimed) {
                core.waitForTime(core.local(-5));
            } else {
                core.leaveWaiting();
            }
        }

        void disableSkip() {
            choose(now.b != 0);
        }

        void disableChannel() {
            boolean found = false;
            if (now.b != 0) {
                Link engine = linkOf(now.c);
                found = engine != null ? disableLink(engine) : disableWord(now.c);
            }
            choose(found);
        }

        private boolean disableLink(Link engine) {
            if (engine.guard == core.own()) {
                engine.guard = NONE;
            }
            return engine.kept != NONE;
        }

        private boolean disableWord(int channel) {
            int partner = memory.wordAt(channel);
            if (partner == core.own()) {
                memory.setWord(channel, MINT);
                return false;
            }
            return partner != MINT;
        }

        void disableTime() {
            choose(now.b != 0 && core.local(-4) == TIME_GIVEN && isLater(core.local(-5), now.c));
        }

        /** The first guard that is found is the one that altend jumps to. */
        private void choose(boolean found) {
            if (found && core.local(0) == NOT_CHOSEN) {
                core.setLocal(0, now.a);
                now.a = 1;
            } else {
                now.a = 0;
            }
            now.b = now.c;
        }

        void inputTime() {
            int time = now.a;
            now.pop();
            if (isLater(core.clock(), time)) {
                return;
            }
            core.setLocal(-5, time);
            core.setLocal(-4, TIME_GIVEN);
            core.setLocal(-3, WAITING);
            core.waitForTime(time);
        }
    }

    /** What each instruction does, but for the operations on channels. */
    private static final class Processor {
        private final Core core;
        private final Registers now;
        private final Memory memory;
        private final Channels channels;

        Processor(Core core, Channels channels) {
            this.core = core;
            this.now = core.now;
            this.memory = core.memory;
            this.channels = channels;
        }

        void execute() {
            boolean wasError = core.error;
            int code = memory.byteAt(now.i);
            now.jump(1);
            core.executed++;
            if (now.priority == LOW) {
                now.slice++;
            }
            now.o |= code & 15;
            int function = code >> 4;
            if (function < 8) {
                doLowFunction(function);
            } else if (function < 15) {
                doHighFunction(function);
            } else if (isOperationDone(now.o)) {
                now.o = 0;
            } else {
                core.stopWith(UNKNOWN_OPERATION);
            }
            core.stopIfBeyond();
            if (core.error && !wasError && core.halt) {
                core.stopWith(HALTED);
            }
        }

        private void doLowFunction(int function) {
            int operand = now.o;
            now.o = 0;
            switch (function) {
                case 0:
                    now.jump(operand);
                    core.yieldIfSliced();
                    break;
                case 1: now.push(now.w + 2 * operand); break;
                case 2: now.o = (operand << 4) & WORD; break;
                case 3: now.a = memory.wordAt(now.a + 2 * operand); break;
                case 4: now.push(operand); break;
                case 5: now.a = (now.a + 2 * operand) & WORD; break;
                case 6: now.o = ((WORD - operand) << 4) & WORD; break;
                default: now.push(core.local(operand)); break;
            }
        }

        private void doHighFunction(int function) {
            int operand = now.o;
            now.o = 0;
            switch (function) {
                case 8: now.a = checked(signed(now.a) + signed(operand)); break;
                case 9: call(operand); break;
                case 10:
                    if (now.a == 0) {
                        now.jump(operand);
                    } else {
                        now.pop();
                    }
                    break;
                case 11: now.setWorkspace(now.w + 2 * operand); break;
                case 12: now.a = now.a == operand ? 1 : 0; break;
                case 13:
                    core.setLocal(operand, now.a);
                    now.pop();
                    break;
                default:
                    memory.setWord(now.a + 2 * operand, now.b);
                    now.popAll();
                    break;
            }
        }

        private void call(int distance) {
            now.setWorkspace(now.w - 8);
            core.setLocal(0, now.i);
            core.setLocal(1, now.a);
            core.setLocal(2, now.b);
            core.setLocal(3, now.c);
            now.a = now.i;
            now.jump(distance);
        }

        private boolean isOperationDone(int operation) {
            return doArithmetic(operation) || doLogic(operation) || doDoubleWords(operation)
                    || doChecks(operation) || doMoves(operation) || doScheduling(operation)
                    || doChannels(operation) || doAlternatives(operation);
        }

        private int checked(int value) {
            if (value != signed(value)) {
                core.error = true;
            }
            return value & WORD;
        }

        private boolean doArithmetic(int operation) {
            int a = signed(now.a);
            int b = signed(now.b);
            int carry = now.c & 1;
            switch (operation) {
                case 2: now.replaceTwo(a + b); break;
                case 4: now.replaceTwo(b - a); break;
                case 5: now.replaceTwo(checked(b + a)); break;
                case 8: now.replaceTwo(b * a); break;
                case 9: now.replaceTwo(b > a ? 1 : 0); break;
                case 10: now.replaceTwo(a + 2 * b); break;
                case 12: now.replaceTwo(checked(b - a)); break;
                case 22: now.replaceTwo(checked(b + a + carry)); break;
                case 31: now.replaceTwo(remainder(b, a)); break;
                case 44: now.replaceTwo(quotient(b, a)); break;
                case 52: now.a = (2 * a) & WORD; break;
                case 56: now.replaceTwo(checked(b - a - carry)); break;
                case 82: now.replaceTwo(a + b); break;
                case 83: now.replaceTwo(checked(b * a)); break;
                default: return false;
            }
            return true;
        }

        private int remainder(int dividend, int divisor) {
            if (divisor == 0) {
                core.error = true;
                return 0;
            }
            return dividend % divisor;
        }

        private int quotient(int dividend, int divisor) {
            if (divisor == 0 || (dividend == -MINT && divisor == -1)) {
                core.error = true;
                return 0;
            }
            return dividend / divisor;
        }

        private boolean doLogic(int operation) {
            int a = now.a;
            int b = now.b;
            switch (operation) {
                case 50: now.a = WORD - a; break;
                case 51: now.replaceTwo(b ^ a); break;
                case 58: now.replaceTwo(b >= a ? b - 2 * a : b); break;
                case 64: now.replaceTwo(a >= 16 ? 0 : b >>> a); break;
                case 65: now.replaceTwo(a >= 16 ? 0 : b << a); break;
                case 70: now.replaceTwo(b & a); break;
                case 75: now.replaceTwo(b | a); break;
                case 116: addToCrc(16); break;
                case 117: addToCrc(8); break;
                case 118: now.replaceTwo(b + Integer.bitCount(a)); break;
                case 119: now.a = reversed(a, 16); break;
                case 120: now.replaceTwo(a > 16 ? 0 : reversed(b, a)); break;
                default: return false;
            }
            return true;
        }

        private void addToCrc(int times) {
            int data = now.a;
            int crc = now.b;
            for (int k = 0; k < times; k++) {
                boolean carries = (crc & MINT) != 0;
                crc = ((crc << 1) | (data >> 15)) & WORD;
                data = (data << 1) & WORD;
                if (carries) {
                    crc ^= now.c;
                }
            }
            now.replaceTwo(crc);
        }

        private static int reversed(int value, int bits) {
            int result = 0;
            for (int k = 0; k < bits; k++) {
                result = (result << 1) | ((value >> k) & 1);
            }
            return result;
        }

        private boolean doDoubleWords(int operation) {
            int a = now.a;
            int b = now.b;
            int c = now.c;
            int carry = c & 1;
            switch (operation) {
                case 25: normalise((b << 16) | a); break;
                case 26: divideLong(((long) c << 16) | b, a); break;
                case 29:
                    now.c = b;
                    now.b = signed(a) < 0 ? WORD : 0;
                    break;
                case 49: setDouble(a * b + c); break;
                case 53: setDouble(a >= 32 ? 0 : ((c << 16) | b) >>> a); break;
                case 54: setDouble(a >= 32 ? 0 : ((c << 16) | b) << a); break;
                case 55: setDouble(a + b + carry); break;
                case 63:
                    now.c = b;
                    now.b = a & 1;
                    now.a = (signed(a) >> 1) & WORD;
                    break;
                case 79:
                    now.a = (b - a - carry) & WORD;
                    now.b = b - a - carry < 0 ? 1 : 0;
                    break;
                default: return false;
            }
            return true;
        }

        private void setDouble(int value) {
            now.a = value & WORD;
            now.b = value >>> 16;
        }

        private void normalise(int value) {
            int moved = value;
            int places = 0;
            while (places < 32 && moved >= 0) {
                moved <<= 1;
                places++;
            }
            setDouble(moved);
            now.c = places;
        }

        private void divideLong(long dividend, int divisor) {
            if (now.c >= divisor || divisor == 0) {
                core.error = true;
                return;
            }
            now.a = (int) (dividend / divisor) & WORD;
            now.b = (int) (dividend % divisor) & WORD;
        }

        private boolean doChecks(int operation) {
            switch (operation) {
                case 16: core.error = true; break;
                case 19:
                    failIf(now.b >= now.a);
                    now.pop();
                    break;
                case 41:
                    now.push(core.error ? 0 : 1);
                    core.error = false;
                    break;
                case 76:
                    failIf(now.b != (signed(now.a) < 0 ? WORD : 0));
                    now.b = now.c;
                    break;
                case 77:
                    failIf(now.b == 0 || now.b > now.a);
                    now.pop();
                    break;
                case 85:
                    if (core.error) {
                        core.leaveWaiting();
                    }
                    break;
                case 86:
                    failIf(signed(now.b) < -signed(now.a) || signed(now.b) > signed(now.a) - 1);
                    now.pop();
                    break;
                case 87: core.halt = false; break;
                case 88: core.halt = true; break;
                case 89: now.push(core.halt ? 1 : 0); break;
                default: return false;
            }
            return true;
        }

        private void failIf(boolean wrong) {
            if (wrong) {
                core.error = true;
            }
        }

        private boolean doMoves(int operation) {
            switch (operation) {
                case 0: now.setStack(now.b, now.a, now.c); break;
                case 1: now.a = memory.byteAt(now.a); break;
                case 6: exchangeWithI(); break;
                case 27: now.a = (now.a + now.i) & WORD; break;
                case 30: now.push(now.priority); break;
                case 32:
                    now.i = core.local(0);
                    now.setWorkspace(now.w + 8);
                    break;
                case 33: endLoop(); break;
                case 34: now.push(core.clock()); break;
                case 59:
                    memory.setByte(now.a, now.b);
                    now.popAll();
                    break;
                case 60: exchangeWithW(); break;
                case 66: now.push(MINT); break;
                case 74: moveBytes(); break;
                case 84:
                    core.timers.setClocks(now.a);
                    now.pop();
                    break;
                case 90: now.push(now.a); break;
                default: return false;
            }
            return true;
        }

        private void exchangeWithI() {
            int target = now.a;
            now.a = now.i;
            now.i = target;
        }

        private void exchangeWithW() {
            int target = now.a;
            now.a = now.w;
            now.setWorkspace(target);
        }

        private void endLoop() {
            int block = now.b;
            int distance = now.a;
            int left = (memory.wordAt(block + 2) - 1) & WORD;
            memory.setWord(block + 2, left);
            now.popAll();
            if (signed(left) > 0) {
                memory.setWord(block, memory.wordAt(block) + 1);
                now.jump(-distance);
                core.yieldIfSliced();
            }
        }

        private void moveBytes() {
            if (now.a > MOST_COPIED) {
                core.stopWith(TOO_LONG);
                return;
            }
            core.copyBytes(now.c, now.b, now.a);
            now.popAll();
        }

        private boolean doScheduling(int operation) {
            switch (operation) {
                case 3: endProcess(); break;
                case 13: startProcess(); break;
                case 21: core.leaveWaiting(); break;
                case 23:
                    core.low.back = now.a & EVEN;
                    now.pop();
                    break;
                case 24:
                    core.high.front = now.a & EVEN;
                    now.pop();
                    break;
                case 28:
                    core.low.front = now.a & EVEN;
                    now.pop();
                    break;
                case 57:
                    core.makeReady(now.a);
                    now.pop();
                    break;
                case 61: saveQueue(core.low); break;
                case 62: saveQueue(core.high); break;
                case 80:
                    core.high.back = now.a & EVEN;
                    now.pop();
                    break;
                default: return false;
            }
            return true;
        }

        private void endProcess() {
            int parent = now.a;
            int left = (memory.wordAt(parent + 2) - 1) & WORD;
            memory.setWord(parent + 2, left);
            if (left == 0) {
                now.setWorkspace(parent);
                now.i = memory.wordAt(parent);
            } else {
                now.priority = NOBODY;
            }
        }

        private void startProcess() {
            memory.setWord(now.a - 2, now.i + now.b);
            core.makeReady((now.a & EVEN) | now.priority);
            now.popAll();
        }

        private void saveQueue(Queue queue) {
            memory.setWord(now.a, queue.front);
            memory.setWord(now.a + 2, queue.back);
            now.pop();
        }

        private boolean doChannels(int operation) {
            switch (operation) {
                case 7: channels.input(); break;
                case 11: channels.output(now.a, now.b, now.c); break;
                case 14:
                    core.setLocal(0, now.a);
                    channels.output(1, now.b, now.w);
                    break;
                case 15:
                    core.setLocal(0, now.a);
                    channels.output(2, now.b, now.w);
                    break;
                case 18: channels.reset(); break;
                case 43: channels.inputTime(); break;
                default: return false;
            }
            return true;
        }

        private boolean doAlternatives(int operation) {
            switch (operation) {
                case 46: channels.disableTime(); break;
                case 47: channels.disableChannel(); break;
                case 48: channels.disableSkip(); break;
                case 67: core.setLocal(-3, ENABLING); break;
                case 68: channels.waitForGuard(); break;
                case 69: now.jump(core.local(0)); break;
                case 71: channels.enableTime(); break;
                case 72: channels.enableChannel(); break;
                case 73: channels.enableSkip(); break;
                case 78:
                    core.setLocal(-3, ENABLING);
                    core.setLocal(-4, NO_TIME);
                    break;
                case 81: channels.waitForGuardOrTime(); break;
                default: return false;
            }
            return true;
        }
    }

    /** A core with its links and its processor, and how it boots. */
    private static final class Node {
        private final Core core;
        private final Link[] links;
        private final Processor processor;
        private boolean boots = true;
        private int bootLink = NONE;
        private int command = NONE;
        private int bytesTaken;
        private int gathered;
        private boolean isAnswering;

        Node(Core core, Link[] links, Processor processor) {
            this.core = core;
            this.links = links;
            this.processor = processor;
        }

        boolean isStartable() {
            return boots && bootLink == NONE;
        }

        void launch(int i, int w, int priority) {
            boots = false;
            core.now.begin(i, w, priority);
            core.now.setStack(0, 0, 0);
        }

        void changeClocks(int tick) {
            if ((tick & 3) == 0) {
                core.strikeClock(HIGH);
            }
            if ((tick & 63) == 0) {
                core.strikeClock(LOW);
            }
            core.stopIfBeyond();
        }

        /** Counts a busy tick or chooses the process; tells whether an instruction is due. */
        boolean prepareTurn() {
            if (core.busy > 0) {
                core.busy--;
                return false;
            }
            if (core.outcome != 0) {
                return false;
            }
            core.chooseNext();
            core.stopIfBeyond();
            return core.outcome == 0 && core.hasProcess();
        }

        void takeBootByte() {
            if (!boots) {
                return;
            }
            leaveWhenAnswered();
            if (bootLink == NONE) {
                bootLink = firstLinkWithByte();
            }
            if (isAnswering || bootLink < 0 || bootLink >= LINKS) {
                return;
            }
            Link source = links[bootLink];
            if (source.kept != NONE) {
                source.end.owed++;
                obey(source, source.releaseKept());
            }
        }

        /** The bytes of a PEEK must be acknowledged before another command is taken. */
        private void leaveWhenAnswered() {
            if (isAnswering && bootLink >= 0 && bootLink < LINKS && links[bootLink].toSend == 0) {
                leaveLink();
            }
        }

        private int firstLinkWithByte() {
            for (int k = 0; k < LINKS; k++) {
                if (links[k].kept != NONE) {
                    return k;
                }
            }
            return NONE;
        }

        private void leaveLink() {
            bootLink = NONE;
            command = NONE;
            bytesTaken = 0;
            gathered = 0;
            isAnswering = false;
        }

        private void obey(Link source, int value) {
            if (command == NONE) {
                command = value;
                return;
            }
            if (command == POKE || command == PEEK) {
                gathered |= value << (8 * bytesTaken);
            } else {
                core.memory.setByte(BOOT_CODE + bytesTaken, value);
            }
            bytesTaken++;
            if (command == POKE && bytesTaken == 4) {
                core.memory.setWord(gathered & WORD, gathered >>> 16);
                leaveLink();
            } else if (command == PEEK && bytesTaken == 2) {
                source.sendWord(core.memory.wordAt(gathered));
                isAnswering = true;
            } else if (command > PEEK && bytesTaken == command) {
                launch(BOOT_CODE, BOOT_CODE + command + 1, LOW);
                core.now.setStack(BOOT_A, BOOT_B, FIRST_INPUT + 2 * bootLink);
            }
        }
    }
}
