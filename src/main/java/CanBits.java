/**
 * A bus of bits on which nodes send frames: the lower identifier wins bit by bit, stuff bits keep it
 * moving, check sums are worked out, all listen, acknowledge, and say with a flag what they saw wrong;
 * what was not sent right is sent again.
 */
public final class CanBits {
    public static final int NONE = -1;

    private static final int MOST_NODES = 32;
    private static final int MOST_FRAMES = 200;
    private static final int MOST_BITS = 20000;
    private static final int MOST_OCTETS = 64;
    // Two errors of one node are eight bits apart at least: six of its flag, one waited for, one of clearing.
    private static final int MOST_ERRORS = 80000;
    // 553 plain bits, 138 stuff bits, 32 of count, check and fixed bits, 10 behind them.
    private static final int MOST_ROW = 733;
    // The shortest frame begins in the third bit of the pause before it, so takings are 46 bits apart at least.
    private static final int MOST_TAKEN = 436;
    private static final int MOST_TAKEN_OCTETS = 2500;

    // What a node is, as state tells it.
    private static final int QUIET = 0;
    private static final int SENDING = 1;
    private static final int LISTENING = 2;
    private static final int FLAGGING = 3;
    private static final int WAITING = 4;
    private static final int CLEARING = 5;
    private static final int PAUSING = 6;

    // What a bit brings to a node: the errors as error tells them, and what is no error.
    private static final int BIT = 0;
    private static final int STUFF = 1;
    private static final int FORM = 2;
    private static final int CHECK = 3;
    private static final int ACKNOWLEDGE = 4;
    private static final int OVERLOAD = 5;
    private static final int DONE = 6;
    private static final int TAKEN = 7;
    private static final int ENDED = 8;

    private static final int EQUAL_BITS = 5;
    private static final int LONGEST_HEAD = 41;
    private static final int SHORT_IDENTIFIERS = 1 << 11;
    private static final int LONG_IDENTIFIERS = 1 << 29;
    private static final int[] FLEXIBLE_OCTETS = {12, 16, 20, 24, 32, 48, 64};

    private final Node[] members;
    private final Frame[] frames;
    private final Writer writer;
    private final byte[] bus;
    private final int[] flips;
    private final int[] doneFrames;
    private final int[] doneTimes;
    private final int[] errors;
    private int memberCount;
    private int frameCount;
    private int doneCount;
    private int errorCount;
    private int flipsEnd;
    private int now;

    public CanBits() {
        members = new Node[MOST_NODES];
        for (int i = 0; i < MOST_NODES; i++) {
            members[i] = new Node();
        }
        frames = new Frame[MOST_FRAMES];
        for (int i = 0; i < MOST_FRAMES; i++) {
            frames[i] = new Frame();
        }
        writer = new Writer();
        bus = new byte[MOST_BITS];
        flips = new int[MOST_BITS];
        doneFrames = new int[MOST_FRAMES];
        doneTimes = new int[MOST_FRAMES];
        errors = new int[MOST_ERRORS];
        begin(2);
    }

    public void nodes(int nodes) throws IllegalArgumentException, NegativeArraySizeException {
        if (nodes > MOST_NODES) {
            throw new IllegalArgumentException("more than 32 nodes");
        }
        if (nodes < 0) {
            throw new NegativeArraySizeException("fewer than 0 nodes");
        }
        begin(nodes);
    }

    public int send(int node, int identifier, int kind, int length)
            throws IndexOutOfBoundsException, IllegalArgumentException, IllegalStateException {
        needNode(node);
        if (kind < 0 || kind > 5) {
            throw new IllegalArgumentException("no such kind");
        }
        if (identifier < 0 || identifier >= (isLong(kind) ? LONG_IDENTIFIERS : SHORT_IDENTIFIERS)) {
            throw new IllegalArgumentException("the identifier has more bits");
        }
        if (length < 0 || length > 15) {
            throw new IllegalArgumentException("the length is not 0 .. 15");
        }
        if (frameCount >= MOST_FRAMES) {
            throw new IllegalStateException("there are 200 frames");
        }
        int number = frameCount++;
        Frame frame = frames[number];
        frame.begin(number, node, kind, octetsOf(kind, length));
        frame.head = headOf(identifier, kind, length);
        writer.write(frame);
        members[node].waiting++;
        members[node].first = firstOf(node);
        return number;
    }

    public void octet(int frame, int i, int b)
            throws IndexOutOfBoundsException, IllegalArgumentException, IllegalStateException {
        needFrame(frame);
        Frame changed = frames[frame];
        if (i < 0 || i >= changed.octetCount) {
            throw new IndexOutOfBoundsException("no such octet");
        }
        if (b < 0 || b > 255) {
            throw new IllegalArgumentException("the octet is not 0 .. 255");
        }
        Node node = members[changed.node];
        if (changed.isDone || node.isSending(changed)) {
            throw new IllegalStateException("the frame is being sent or done");
        }
        changed.octets[i] = b;
        writer.write(changed);
        node.first = firstOf(changed.node);
    }

    public int stuffed(int frame) throws IndexOutOfBoundsException {
        needFrame(frame);
        return frames[frame].rowLength;
    }

    public void filter(int node, int mask, int match) throws IndexOutOfBoundsException {
        needNode(node);
        members[node].mask = mask;
        members[node].match = match;
    }

    public void flip(int node, int at) throws IndexOutOfBoundsException, IllegalArgumentException {
        needNode(node);
        if (at < now || at >= MOST_BITS) {
            throw new IllegalArgumentException("the bit time has gone by or is above 19999");
        }
        flips[at] |= 1 << node;
        flipsEnd = Math.max(flipsEnd, at + 1);
    }

    public int run(int bits) throws IllegalArgumentException, IllegalStateException {
        if (bits < 0) {
            throw new IllegalArgumentException("fewer than 0 bits");
        }
        if (bits > MOST_BITS - now) {
            throw new IllegalStateException("more than 20000 bits");
        }
        int doneBefore = doneCount;
        for (int i = 0; i < bits && now < MOST_BITS; i++) {
            int b = putByAll();
            int turned = flips[now];
            bus[now] = (byte) b;
            for (int k = 0; k < memberCount; k++) {
                keep(k, members[k].see(b ^ ((turned >>> k) & 1), now));
            }
            now++;
        }
        return doneCount - doneBefore;
    }

    public int time() {
        return now;
    }

    public int bit(int i) throws ArrayIndexOutOfBoundsException {
        if (i < 0 || i >= now) {
            throw new ArrayIndexOutOfBoundsException("the bit time has not gone by");
        }
        return bus[i];
    }

    public int check(int kind, int from, int to) throws IllegalArgumentException, IndexOutOfBoundsException {
        if (kind < 0 || kind > 2) {
            throw new IllegalArgumentException("no such check");
        }
        if (from < 0 || from > to || to > now) {
            throw new IndexOutOfBoundsException("not 0 <= from <= to <= time()");
        }
        Sums sums = writer.sums;
        sums.begin();
        Register sum = kind == 0 ? sums.of15 : kind == 1 ? sums.of17 : sums.of21;
        for (int i = from; i < to; i++) {
            sum.move(bus[i]);
        }
        return sum.value;
    }

    public int state(int node) throws IndexOutOfBoundsException {
        needNode(node);
        return members[node].state;
    }

    public int waiting(int node) throws IndexOutOfBoundsException {
        needNode(node);
        return members[node].waiting;
    }

    public int done(int i, int what) throws IndexOutOfBoundsException, IllegalArgumentException {
        if (i == NONE && what == 0) {
            return doneCount;
        }
        needThing(i, doneCount);
        needWhat(what, 1);
        return what == 0 ? doneFrames[i] : doneTimes[i];
    }

    public int taken(int node, int i, int what) throws IndexOutOfBoundsException, IllegalArgumentException {
        needNode(node);
        Takings takings = members[node].takings;
        if (i == NONE && what == 0) {
            return takings.count;
        }
        needThing(i, takings.count);
        needWhat(what, 4);
        return takings.told(i, what);
    }

    public int takenOctet(int node, int i, int k) throws IndexOutOfBoundsException {
        needNode(node);
        Takings takings = members[node].takings;
        needThing(i, takings.count);
        needThing(k, takings.told(i, Takings.OCTET_COUNT));
        return takings.octetOf(i, k);
    }

    public int error(int i, int what) throws IndexOutOfBoundsException, IllegalArgumentException {
        if (i == NONE && what == 0) {
            return errorCount;
        }
        needThing(i, errorCount);
        needWhat(what, 2);
        int packed = errors[i];
        return what == 0 ? (packed & 7) : what == 1 ? ((packed >> 3) & 31) : (packed >> 8);
    }

    private void needNode(int node) {
        if (node < 0 || node >= memberCount) {
            throw new IndexOutOfBoundsException("no such node");
        }
    }

    private void needFrame(int frame) {
        if (frame < 0 || frame >= frameCount) {
            throw new IndexOutOfBoundsException("no such frame");
        }
    }

    private static void needThing(int i, int count) {
        if (i < 0 || i >= count) {
            throw new IndexOutOfBoundsException("no such thing told");
        }
    }

    private static void needWhat(int what, int last) {
        if (what < 0 || what > last) {
            throw new IllegalArgumentException("no such thing to tell");
        }
    }

    private void begin(int nodes) {
        memberCount = nodes;
        frameCount = 0;
        doneCount = 0;
        errorCount = 0;
        now = 0;
        for (int i = 0; i < nodes; i++) {
            members[i].begin();
        }
        for (int i = 0; i < flipsEnd && i < MOST_BITS; i++) {
            flips[i] = 0;
        }
        flipsEnd = 0;
    }

    private int putByAll() {
        int b = 1;
        for (int i = 0; i < memberCount; i++) {
            b &= members[i].put();
        }
        return b;
    }

    private void keep(int node, int event) {
        if (event == DONE) {
            finish(node);
        } else if (event != NONE && errorCount < MOST_ERRORS) {
            errors[errorCount++] = (now << 8) | (node << 3) | event;
        }
    }

    private void finish(int node) {
        Node sender = members[node];
        Frame frame = sender.sending;
        if (frame == null || doneCount >= MOST_FRAMES) {
            return;
        }
        frame.isDone = true;
        doneFrames[doneCount] = frame.number;
        doneTimes[doneCount] = now;
        doneCount++;
        sender.waiting--;
        sender.first = firstOf(node);
    }

    /** The first of a node's frames, null if it has none. */
    private Frame firstOf(int node) {
        Frame first = null;
        for (int i = 0; i < frameCount; i++) {
            Frame frame = frames[i];
            if (frame.node == node && !frame.isDone && (first == null || frame.goesBefore(first))) {
                first = frame;
            }
        }
        return first;
    }

    private static boolean isLong(int kind) {
        return kind == 1 || kind == 3 || kind == 5;
    }

    private static boolean isFlexible(int kind) {
        return kind == 2 || kind == 3;
    }

    private static boolean isRemote(int kind) {
        return kind == 4 || kind == 5;
    }

    private static int octetsOf(int kind, int code) {
        if (kind > 3) {
            return 0;
        }
        if (code < 9) {
            return code;
        }
        int i = code - 9;
        return kind > 1 && i < FLEXIBLE_OCTETS.length ? FLEXIBLE_OCTETS[i] : 8;
    }

    /** How many plain bits there are up to the end of the length code. */
    private static int headLength(boolean isLong, boolean isFlexible) {
        return isLong ? (isFlexible ? LONGEST_HEAD : 39) : (isFlexible ? 22 : 19);
    }

    /** The plain bits up to the end of the length code, the first of them the highest of LONGEST_HEAD bits. */
    private static long headOf(int identifier, int kind, int code) {
        boolean isLong = isLong(kind);
        boolean isFlexible = isFlexible(kind);
        long remote = isRemote(kind) ? 1 : 0;
        long head;
        if (isLong) {
            long upper = identifier >> 18;
            long lower = identifier & 0x3FFFF;
            head = (((upper << 2) | 3) << 19) | (lower << 1) | remote;
        } else {
            head = (((long) identifier << 1) | remote) << 1;
        }
        if (isFlexible) {
            head = (head << 4) | 8;
        } else {
            head = head << (isLong ? 2 : 1);
        }
        return ((head << 4) | code) << (LONGEST_HEAD - headLength(isLong, isFlexible));
    }

    /** The count of stuff bits as it stands in a frame: three bits of which one changes at a time, and one more. */
    private static int countOf(int stuffBits) {
        int n = stuffBits & 7;
        int three = n ^ (n >> 1);
        return (three << 1) | (Integer.bitCount(three) & 1);
    }

    /** The register of a check. */
    private static final class Register {
        private final int top;
        private final int turn;
        private final int start;
        private int value;

        Register(int width, int turn, int start) {
            this.top = 1 << (width - 1);
            this.turn = turn;
            this.start = start;
        }

        void begin() {
            value = start;
        }

        void move(int b) {
            int gone = (value & top) == 0 ? 0 : 1;
            value = (value << 1) & ((top << 1) - 1);
            if (gone != b) {
                value ^= turn;
            }
        }
    }

    /** The checks of a frame; before its kind and length are known it may need any of them. */
    private static final class Sums {
        private final Register of15 = new Register(15, 17817, 0);
        private final Register of17 = new Register(17, 92251, 1 << 16);
        private final Register of21 = new Register(21, 1058969, 1 << 20);

        void begin() {
            of15.begin();
            of17.begin();
            of21.begin();
        }

        void addPlain(int b) {
            of15.move(b);
            of17.move(b);
            of21.move(b);
        }

        /** A bit that the check of 15 bits leaves out. */
        void addOther(int b) {
            of17.move(b);
            of21.move(b);
        }

        int ofFlexible(int octets) {
            return octets <= 16 ? of17.value : of21.value;
        }

        static int flexibleWidth(int octets) {
            return octets <= 16 ? 17 : 21;
        }
    }

    /** A frame that was given to a node, and its row of bits as the bus gets them. */
    private static final class Frame {
        private static final int ARBITRATION = 2;

        private final int[] octets = new int[MOST_OCTETS];
        private final byte[] row = new byte[MOST_ROW];
        private int rowLength;
        private int number;
        private int node;
        private int kind;
        private long head;
        private int octetCount;
        private boolean isDone;

        void begin(int number, int node, int kind, int octetCount) {
            this.number = number;
            this.node = node;
            this.kind = kind;
            this.octetCount = octetCount;
            isDone = false;
            for (int i = 0; i < MOST_OCTETS; i++) {
                octets[i] = 0;
            }
        }

        /** Whether this one, made later, has a 0 where the plain bits of the two differ first. */
        boolean goesBefore(Frame other) {
            // Kinds differ before a head ends, and the check follows from the bits before it: neither is compared.
            if (head != other.head) {
                return head < other.head;
            }
            for (int i = 0; i < octetCount && i < MOST_OCTETS; i++) {
                if (octets[i] != other.octets[i]) {
                    return octets[i] < other.octets[i];
                }
            }
            return false;
        }

        void append(int b, boolean inArbitration) {
            if (rowLength < MOST_ROW) {
                row[rowLength++] = (byte) (inArbitration ? (b | ARBITRATION) : b);
            }
        }

        int rowBit(int i) {
            return i >= 0 && i < rowLength ? (row[i] & 1) : 1;
        }

        boolean canLoseAt(int i) {
            return i >= 0 && i < rowLength && row[i] == (ARBITRATION | 1);
        }

        boolean acknowledgedAt(int i) {
            return i == rowLength - 9;
        }
    }

    /** Works out the rows of frames. */
    private static final class Writer {
        private final Sums sums = new Sums();
        private int last;
        private int run;
        private int stuffBits;

        void write(Frame frame) {
            begin();
            frame.rowLength = 0;
            int headLength = headLength(isLong(frame.kind), isFlexible(frame.kind));
            int lastOfArbitration = isLong(frame.kind) ? 32 : 13;
            for (int i = 0; i < headLength; i++) {
                writePlain(frame, (int) (frame.head >> (LONGEST_HEAD - 1 - i)) & 1, i <= lastOfArbitration);
            }
            for (int i = 0; i < frame.octetCount && i < MOST_OCTETS; i++) {
                writeNumber(frame, frame.octets[i], 8);
            }
            if (isFlexible(frame.kind)) {
                writeFixed(frame);
            } else {
                writeNumber(frame, sums.of15.value, 15);
                writeStuffBit(frame);
            }
            for (int i = 0; i < 10; i++) {
                frame.append(1, false);
            }
        }

        private void begin() {
            sums.begin();
            last = 1;
            run = 0;
            stuffBits = 0;
        }

        private void writeNumber(Frame frame, int number, int width) {
            for (int i = width - 1; i >= 0; i--) {
                writePlain(frame, (number >> i) & 1, false);
            }
        }

        private void writePlain(Frame frame, int b, boolean inArbitration) {
            // A stuff bit waits for the plain bit behind it, for behind the last one it depends on the kind.
            writeStuffBit(frame);
            sums.addPlain(b);
            run = b == last ? run + 1 : 1;
            last = b;
            frame.append(b, inArbitration);
        }

        private void writeStuffBit(Frame frame) {
            if (run == EQUAL_BITS) {
                last = 1 - last;
                run = 1;
                stuffBits++;
                sums.addOther(last);
                frame.append(last, false);
            }
        }

        private void writeFixed(Frame frame) {
            int count = countOf(stuffBits);
            for (int i = 3; i >= 0; i--) {
                sums.addOther((count >> i) & 1);
            }
            int width = Sums.flexibleWidth(frame.octetCount);
            int bits = (count << width) | sums.ofFlexible(frame.octetCount);
            for (int i = 0; i < width + 4; i++) {
                if (i % 4 == 0) {
                    frame.append(1 - last, false);
                }
                last = (bits >> (width + 3 - i)) & 1;
                frame.append(last, false);
            }
        }
    }

    /** Takes a frame apart, bit by bit as it is seen. */
    private static final class Listener {
        private static final int STUFFED_BITS = 0;
        private static final int FIXED_BITS = 1;
        private static final int TAIL_BITS = 2;
        private static final int NOT_KNOWN = 1000000;

        private final Sums sums = new Sums();
        private final int[] octets = new int[MOST_OCTETS];
        private int part;
        private int place;
        private int last;
        private int run;
        private int stuffBits;
        private int plainBits;
        private long head;
        private boolean isLong;
        private boolean isFlexible;
        private int headEnd;
        private int bodyEnd;
        private int plainEnd;
        private int octetCount;
        private int seen;
        private boolean isRight;

        void begin() {
            sums.begin();
            part = STUFFED_BITS;
            place = 0;
            last = 1;
            run = 0;
            stuffBits = 0;
            plainBits = 0;
            head = 0;
            isLong = false;
            isFlexible = false;
            headEnd = LONGEST_HEAD;
            bodyEnd = NOT_KNOWN;
            plainEnd = NOT_KNOWN;
            octetCount = 0;
            seen = 0;
            isRight = false;
        }

        /** Whether the bit to come is that of a frame to acknowledge. */
        boolean acknowledges() {
            return part == TAIL_BITS && place == 1 && isRight;
        }

        int identifier() {
            int upper = (int) (head >> (headEnd - 12)) & 0x7FF;
            if (!isLong) {
                return upper;
            }
            return (upper << 18) | ((int) (head >> (headEnd - 32)) & 0x3FFFF);
        }

        int kind() {
            int longer = isLong ? 1 : 0;
            if (isFlexible) {
                return 2 + longer;
            }
            int remoteAt = isLong ? 32 : 12;
            return ((head >> (headEnd - 1 - remoteAt)) & 1) == 1 ? 4 + longer : longer;
        }

        int code() {
            return (int) head & 15;
        }

        int hear(int b) {
            if (part == TAIL_BITS) {
                return hearTail(b);
            }
            if (part == FIXED_BITS) {
                return hearFixed(b);
            }
            if (run == EQUAL_BITS) {
                return hearStuffBit(b);
            }
            run = b == last ? run + 1 : 1;
            last = b;
            return hearPlain(b);
        }

        private int hearStuffBit(int b) {
            if (b == last) {
                return STUFF;
            }
            last = b;
            run = 1;
            stuffBits++;
            sums.addOther(b);
            if (plainBits == plainEnd) {
                part = TAIL_BITS;
            }
            return NONE;
        }

        private int hearPlain(int b) {
            int i = plainBits++;
            if (i < bodyEnd) {
                sums.addPlain(b);
            }
            if (i < headEnd) {
                hearHead(i, b);
            } else if (i < bodyEnd) {
                hearOctet(i - headEnd, b);
            } else {
                seen = (seen << 1) | b;
            }
            if (plainBits == plainEnd) {
                endPlain();
            }
            return isFlexible && b == 1 && i == (isLong ? 34 : 15) ? FORM : NONE;
        }

        private void hearHead(int i, int b) {
            head = (head << 1) | b;
            if (i == 13) {
                isLong = b == 1;
            }
            if (i == (isLong ? 33 : 14)) {
                isFlexible = b == 1;
                headEnd = headLength(isLong, isFlexible);
            }
            if (i == headEnd - 1) {
                octetCount = octetsOf(kind(), code());
                bodyEnd = headEnd + 8 * octetCount;
                plainEnd = isFlexible ? bodyEnd : bodyEnd + 15;
            }
        }

        private void hearOctet(int i, int b) {
            int k = i >> 3;
            if (k >= 0 && k < MOST_OCTETS) {
                octets[k] = ((octets[k] << 1) & 255) | b;
            }
        }

        private void endPlain() {
            if (isFlexible) {
                part = FIXED_BITS;
                return;
            }
            isRight = seen == sums.of15.value;
            if (run < EQUAL_BITS) {
                part = TAIL_BITS;
            }
        }

        /** Count and check, a fixed bit before each four of them. */
        private int hearFixed(int b) {
            int i = place++;
            boolean isFixed = i % 5 == 0;
            if (isFixed && b == last) {
                return STUFF;
            }
            last = b;
            if (isFixed) {
                return NONE;
            }
            seen = (seen << 1) | b;
            if (i < 5) {
                sums.addOther(b);
                return i == 4 ? endCount() : NONE;
            }
            int bits = 4 + Sums.flexibleWidth(octetCount);
            if (i == bits + (bits - 1) / 4) {
                isRight = seen == sums.ofFlexible(octetCount);
                part = TAIL_BITS;
                place = 0;
            }
            return NONE;
        }

        private int endCount() {
            int count = seen;
            seen = 0;
            return count == countOf(stuffBits) ? NONE : STUFF;
        }

        /** Check end, acknowledge, acknowledge end, and seven of end. */
        private int hearTail(int b) {
            int i = place++;
            if (i == 1) {
                return NONE;
            }
            if (b == 0) {
                return i == 9 ? OVERLOAD : FORM;
            }
            if (i == 2 && !isRight) {
                return CHECK;
            }
            return i == 8 ? TAKEN : i == 9 ? ENDED : NONE;
        }
    }

    /** The frames that a node took. */
    private static final class Takings {
        private static final int OCTET_COUNT = 3;
        private static final int OCTETS_FROM = 5;
        private static final int COLUMNS = 6;

        private final int[] table = new int[MOST_TAKEN * COLUMNS];
        private final int[] octets = new int[MOST_TAKEN_OCTETS];
        private int count;
        private int octetsHeld;

        void begin() {
            count = 0;
            octetsHeld = 0;
        }

        void add(Listener heard, int now) {
            if (count >= MOST_TAKEN || heard.octetCount > MOST_TAKEN_OCTETS - octetsHeld) {
                return;
            }
            int row = count * COLUMNS;
            table[row] = heard.identifier();
            table[row + 1] = heard.kind();
            table[row + 2] = heard.code();
            table[row + OCTET_COUNT] = heard.octetCount;
            table[row + 4] = now;
            table[row + OCTETS_FROM] = octetsHeld;
            for (int i = 0; i < heard.octetCount && i < MOST_OCTETS; i++) {
                octets[octetsHeld++] = heard.octets[i];
            }
            count++;
        }

        int told(int i, int what) {
            int at = i * COLUMNS + what;
            return at >= 0 && at < table.length ? table[at] : NONE;
        }

        int octetOf(int i, int k) {
            int at = told(i, OCTETS_FROM) + k;
            return at >= 0 && at < octets.length ? octets[at] : NONE;
        }
    }

    /** A node: what it is, what it puts, and what it makes of the bits that it sees. */
    private static final class Node {
        private final Listener listener = new Listener();
        private final Takings takings = new Takings();
        private int state;
        private int count;
        private int mask;
        private int match;
        private int waiting;
        private Frame first;
        private Frame sending;
        private int place;

        void begin() {
            takings.begin();
            enter(QUIET);
            mask = 0;
            match = 0;
            waiting = 0;
            first = null;
            sending = null;
            place = 0;
        }

        boolean isSending(Frame frame) {
            return state == SENDING && sending == frame;
        }

        int put() {
            if (state == QUIET && first != null) {
                startSending(0);
            }
            if (state == SENDING && sending != null) {
                return sending.rowBit(place);
            }
            return state == FLAGGING || (state == LISTENING && listener.acknowledges()) ? 0 : 1;
        }

        /** What the bit brings: an error, an overload, that a frame is done, or none of these. */
        int see(int b, int now) {
            if (b == 0) {
                turnToListening();
            }
            int event = NONE;
            switch (state) {
                case SENDING:
                    event = seeSending(b);
                    break;
                case LISTENING:
                    event = listener.hear(b);
                    break;
                case FLAGGING:
                    seeFlagging();
                    break;
                case WAITING:
                    if (b == 1) {
                        enter(CLEARING);
                    }
                    break;
                case CLEARING:
                    event = seeClearing(b);
                    break;
                case PAUSING:
                    event = seePausing(b);
                    break;
                default:
                    break;
            }
            return settle(event, now);
        }

        private void enter(int next) {
            state = next;
            count = 0;
        }

        private void startSending(int from) {
            enter(SENDING);
            sending = first;
            place = from;
        }

        /** Before a 0 is seen, which may begin a frame, or win the arbitration against this node's own one. */
        private void turnToListening() {
            boolean begins = state == QUIET || (state == PAUSING && count == 2 && first == null);
            boolean loses = state == SENDING && sending != null && sending.canLoseAt(place);
            if (!begins && !loses) {
                return;
            }
            enter(LISTENING);
            listener.begin();
            if (loses) {
                // All that it saw so far was as it put it, or it would be sending no more.
                for (int i = 0; i < place; i++) {
                    listener.hear(sending.rowBit(i));
                }
            }
        }

        private int seeSending(int b) {
            if (sending == null) {
                return NONE;
            }
            if (sending.acknowledgedAt(place)) {
                if (b == 1) {
                    return ACKNOWLEDGE;
                }
            } else if (b != sending.rowBit(place)) {
                return BIT;
            }
            place++;
            return place >= sending.rowLength ? DONE : NONE;
        }

        private void seeFlagging() {
            count++;
            if (count == 6) {
                enter(WAITING);
            }
        }

        private int seeClearing(int b) {
            count++;
            if (b == 0) {
                return count == 7 ? OVERLOAD : FORM;
            }
            return count == 7 ? ENDED : NONE;
        }

        private int seePausing(int b) {
            count++;
            if (count < 3) {
                return b == 0 ? OVERLOAD : NONE;
            }
            if (b == 1) {
                enter(QUIET);
            } else {
                startSending(1);
            }
            return NONE;
        }

        private int settle(int event, int now) {
            if (event == TAKEN) {
                if ((listener.identifier() & mask) == match) {
                    takings.add(listener, now);
                }
                return NONE;
            }
            if (event == ENDED || event == DONE) {
                enter(PAUSING);
                return event == DONE ? DONE : NONE;
            }
            if (event != NONE) {
                enter(FLAGGING);
            }
            return event;
        }
    }
}
