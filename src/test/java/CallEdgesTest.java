/** Promises 1 to 17: each sentence that names an edge or a refusal has a test of its own. */
public final class CallEdgesTest {
    private static final Class<?> ARGUMENT = IllegalArgumentException.class;
    private static final Class<?> INDEX = IndexOutOfBoundsException.class;
    private static final Class<?> STATE = IllegalStateException.class;
    private static final int MOST = Integer.MAX_VALUE;
    private static final int LEAST = Integer.MIN_VALUE;
    private static final int NONE = CanBits.NONE;

    interface OfNode {
        long answer(CanBits x, int node);
    }

    private static CanBits bus(int nodes) {
        CanBits x = new CanBits();
        x.nodes(nodes);
        return x;
    }

    /** Three nodes; the first has sent the frame 291 with octets 165, 90, which is 61 bits long. */
    private static CanBits sent() {
        CanBits x = bus(3);
        x.send(0, 291, 0, 2);
        x.octet(0, 0, 165);
        x.octet(0, 1, 90);
        x.run(61);
        return x;
    }

    /** A lone sender: an acknowledge error each time. */
    private static CanBits failing(int times) {
        CanBits x = bus(1);
        x.send(0, 291, 0, 2);
        int length = x.stuffed(0);
        // Row up to ACKNOWLEDGE, flag, one of waiting, seven of clearing, pause.
        x.run((length - 8) * times + 17 * (times - 1));
        return x;
    }

    /** No such node: below 0, from the count on, and all of them where there are none. */
    private static void needsNode(String name, OfNode call) {
        for (int count : new int[] {0, 1, 2, 31, 32}) {
            CanBits x = bus(count);
            for (int node : new int[] {-1, count, count + 1, 32, LEAST, MOST}) {
                Due.fails(name + " of node " + node + " of " + count, INDEX, () -> call.answer(x, node));
            }
            if (count > 0) {
                Due.is(name + " of node 0 of " + count, 0, () -> call.answer(x, 0));
                CanBits y = bus(count);
                Due.is(name + " of the last of " + count, 0, () -> call.answer(y, count - 1));
            }
        }
        // Nodes that were there before nodes() told fewer are there no more.
        CanBits x = bus(32);
        x.nodes(2);
        Due.fails(name + " of node 2, of 32 before", INDEX, () -> call.answer(x, 2));
    }

    private static void newObject() {
        CanBits fresh = new CanBits();
        CanBits told = new CanBits();
        told.run(7);
        told.nodes(2);
        Due.same("a new object", Look.at(told), Look.at(fresh));
        for (CanBits x : new CanBits[] {fresh, told}) {
            x.send(1, 5, 3, 9);
            x.send(0, 6, 0, 1);
            x.flip(0, 60);
            x.run(600);
        }
        Due.same("a new object that was used", Look.at(told), Look.at(fresh));
        Due.is("nodes", 2, () -> Look.nodes(fresh));
    }

    private static void tooManyNodes() {
        CanBits x = new CanBits();
        Due.stops("nodes(33)", ARGUMENT, () -> x.nodes(33));
        Due.stops("nodes(64)", ARGUMENT, () -> x.nodes(64));
        Due.stops("nodes(most)", ARGUMENT, () -> x.nodes(MOST));
        Due.is("nodes that are there", 2, () -> Look.nodes(x));
        Due.goes("nodes(32)", () -> x.nodes(32));
        Due.is("nodes that are there", 32, () -> Look.nodes(x));
    }

    private static void tooFewNodes() {
        CanBits x = new CanBits();
        Due.stops("nodes(-1)", NegativeArraySizeException.class, () -> x.nodes(-1));
        Due.stops("nodes(least)", NegativeArraySizeException.class, () -> x.nodes(LEAST));
        Due.is("nodes that are there", 2, () -> Look.nodes(x));
        Due.goes("nodes(0)", () -> x.nodes(0));
        Due.is("nodes that are there", 0, () -> Look.nodes(x));
    }

    /** From each moment of a run with arbitration, errors and takings, and from the end of all bits. */
    private static void beginsAnew() {
        String fresh = Look.at(bus(3));
        for (int t = 0; t < 160; t++) {
            CanBits x = Refusals.busy();
            x.run(t);
            x.nodes(3);
            Due.same("nodes(3) at " + t, fresh, Look.at(x));
            CanBits y = bus(3);
            y.send(2, 7, 2, 9);
            x.send(2, 7, 2, 9);
            y.run(200);
            x.run(200);
            Due.same("what is sent behind nodes(3) at " + t, Look.at(y), Look.at(x));
        }
        CanBits x = bus(3);
        x.run(20000);
        x.nodes(3);
        Due.same("nodes(3) at 20000", fresh, Look.at(x));
    }

    private static void filtersTakeAll() {
        CanBits x = bus(2);
        x.filter(1, 2047, 1);
        x.nodes(2);
        x.send(0, 0, 0, 0);
        x.send(0, 2047, 0, 0);
        x.send(0, 536870911, 5, 0);
        x.run(400);
        Due.is("taken(1, NONE, 0)", 3, () -> x.taken(1, NONE, 0));
    }

    private static void numbers() {
        CanBits x = bus(32);
        for (int i = 0; i < 200; i++) {
            int number = i;
            Due.is("send " + number, number, () -> x.send(number % 32, 1, 0, 0));
        }
        // Frames of any node have one row of numbers.
        Due.is("waiting(0)", 7, () -> x.waiting(0));
        Due.is("waiting(7)", 7, () -> x.waiting(7));
        Due.is("waiting(8)", 6, () -> x.waiting(8));
    }

    private static void twoHundredFrames() {
        CanBits x = bus(2);
        for (int i = 0; i < 199; i++) {
            x.send(0, 1300, 4, 3);
        }
        Due.is("the 200th", 199, () -> x.send(0, 1300, 4, 3));
        Due.fails("one more", STATE, () -> x.send(0, 1300, 4, 3));
        Due.fails("one more of the other node", STATE, () -> x.send(1, 1, 0, 0));
        Due.is("run of all", 200, () -> x.run(200 * 47));
        Due.is("waiting(0)", 0, () -> x.waiting(0));
        Due.fails("one more when all are DONE", STATE, () -> x.send(0, 1300, 4, 3));
        Due.is("done(199, 0)", 199, () -> x.done(199, 0));
        x.nodes(2);
        Due.is("the first behind nodes", 0, () -> x.send(0, 1300, 4, 3));
    }

    private static void octetValues() {
        CanBits x = bus(2);
        x.send(0, 1, 0, 1);
        for (int wrong : new int[] {-1, 256, 257, LEAST, MOST}) {
            Due.stops("octet " + wrong, ARGUMENT, () -> x.octet(0, 0, wrong));
        }
        Due.goes("octet 0", () -> x.octet(0, 0, 0));
        Due.goes("octet 255", () -> x.octet(0, 0, 255));
        x.run(100);
        Due.is("what was sent", 255, () -> x.takenOctet(1, 0, 0));
    }

    private static void octetOfWhatIsNotThere() {
        CanBits x = bus(2);
        Due.stops("frame 0 of none", INDEX, () -> x.octet(0, 0, 0));
        x.send(0, 1, 0, 1);
        x.send(0, 1, 4, 8);
        for (int wrong : new int[] {-1, 2, 200, LEAST, MOST}) {
            Due.stops("frame " + wrong, INDEX, () -> x.octet(wrong, 0, 0));
            Due.stops("octet " + wrong, INDEX, () -> x.octet(0, wrong, 0));
        }
        Due.stops("octet 1 of one", INDEX, () -> x.octet(0, 1, 0));
        Due.stops("octet 0 of a remote frame", INDEX, () -> x.octet(1, 0, 0));
        x.nodes(2);
        Due.stops("a frame of before", INDEX, () -> x.octet(0, 0, 0));
    }

    private static void octetWhileSending() {
        CanBits x = bus(2);
        x.send(0, 291, 0, 2);
        Due.goes("before the first bit", () -> x.octet(0, 0, 165));
        Due.goes("before the first bit", () -> x.octet(0, 1, 90));
        for (int t = 1; t < 61; t++) {
            x.run(1);
            Due.stops("behind bit " + t, STATE, () -> x.octet(0, 0, 1));
        }
        x.run(1);
        Due.is("done", 1, () -> x.done(NONE, 0));
        Due.is("what was sent", 165, () -> x.takenOctet(1, 0, 0));
        Due.stops("when it is DONE", STATE, () -> x.octet(0, 0, 1));
        x.run(1000);
        Due.stops("long behind that", STATE, () -> x.octet(0, 0, 1));
    }

    private static void octetWhileNotSending() {
        CanBits x = bus(1);
        x.send(0, 5, 0, 1);
        x.send(0, 4, 0, 1);
        int length = x.stuffed(1);
        x.run(1);
        Due.goes("of the one that is not first", () -> x.octet(0, 0, 1));
        Due.stops("of the first", STATE, () -> x.octet(1, 0, 1));
        x.run(length - 9);
        // Flagging, waiting, clearing, pausing, and quiet before it is sent again.
        for (int t = 0; t <= 17; t++) {
            int b = t;
            Due.goes("of the first, " + t + " bits behind its error", () -> x.octet(1, 0, b));
            x.run(1);
        }
        Due.stops("when it is sent again", STATE, () -> x.octet(1, 0, 1));
    }

    private static void stuffedOfWhatIsNotThere() {
        CanBits x = bus(2);
        Due.fails("stuffed(0) of none", INDEX, () -> x.stuffed(0));
        x.send(0, 1300, 4, 3);
        Due.is("stuffed(0)", 44, () -> x.stuffed(0));
        for (int wrong : new int[] {-1, 1, 199, 200, LEAST, MOST}) {
            Due.fails("stuffed(" + wrong + ")", INDEX, () -> x.stuffed(wrong));
        }
        for (int i = 1; i < 200; i++) {
            x.send(0, 1300, 4, 3);
        }
        Due.is("stuffed(199)", 44, () -> x.stuffed(199));
        Due.fails("stuffed(200)", INDEX, () -> x.stuffed(200));
        x.nodes(2);
        Due.fails("stuffed(0) behind nodes", INDEX, () -> x.stuffed(0));
    }

    private static void stuffedOfTheShortestAndLongest() {
        CanBits x = bus(2);
        x.send(0, 1300, 4, 3);
        Due.is("34 plain bits and END", 44, () -> x.stuffed(0));
        x.send(0, 0, 3, 15);
        for (int i = 0; i < 64; i++) {
            x.octet(1, i, 0x87);
        }
        int[] octets = new int[64];
        java.util.Arrays.fill(octets, 0x87);
        Due.is("64 octets full of stuff bits", Rows.row(0, 3, 15, octets).length(), () -> x.stuffed(1));
        // What an octet changes shows at once, and DONE changes nothing.
        x.octet(1, 63, 0);
        octets[63] = 0;
        Due.is("an octet changed", Rows.row(0, 3, 15, octets).length(), () -> x.stuffed(1));
        x.run(1000);
        Due.is("when it is DONE", Rows.row(0, 3, 15, octets).length(), () -> x.stuffed(1));
    }

    private static void filterOfWhatIsNotThere() {
        needsNode("filter", (x, node) -> Due.valueOf(() -> x.filter(node, 1, 1)).answer());
    }

    private static void filterEdges() {
        // match has a bit that mask has not: nothing fits; mask 0 and match 0: all; -1: the identifier itself.
        int[][] rows = {{0, 0, 1}, {0, 1, 0}, {1, 3, 0}, {-1, 2047, 1}, {-1, 2046, 0}, {LEAST, 0, 1}, {LEAST, LEAST, 0},
            {MOST, 2047, 1}, {1024, 1024, 1}, {1024, 0, 0}};
        for (int[] row : rows) {
            CanBits x = bus(2);
            x.filter(1, row[0], row[1]);
            x.send(0, 2047, 0, 0);
            x.run(100);
            Due.is("taken by filter(1, " + row[0] + ", " + row[1] + ")", row[2], () -> x.taken(1, NONE, 0));
        }
    }

    private static void flipOfWhatIsNotThere() {
        needsNode("flip", (x, node) -> Due.valueOf(() -> x.flip(node, 5)).answer());
    }

    private static void flipToldAgain() {
        for (int times = 1; times <= 4; times++) {
            CanBits x = bus(2);
            for (int i = 0; i < times; i++) {
                x.flip(1, 5);
            }
            x.run(6);
            Due.is("state(1) when told " + times + " times", 2, () -> x.state(1));
            Due.is("state(0)", 0, () -> x.state(0));
        }
    }

    private static void flipGoneBy() {
        CanBits x = bus(2);
        Due.stops("flip(0, -1) at 0", ARGUMENT, () -> x.flip(0, -1));
        Due.stops("flip(0, least) at 0", ARGUMENT, () -> x.flip(0, LEAST));
        Due.goes("flip(0, 0) at 0", () -> x.flip(0, 0));
        CanBits y = bus(2);
        y.run(10);
        Due.stops("flip(0, 9) at 10", ARGUMENT, () -> y.flip(0, 9));
        Due.stops("flip(0, 0) at 10", ARGUMENT, () -> y.flip(0, 0));
        Due.goes("flip(0, 10) at 10", () -> y.flip(0, 10));
        y.run(1);
        Due.is("state(0)", 2, () -> y.state(0));
        Due.stops("flip(0, 10) at 11", ARGUMENT, () -> y.flip(0, 10));
    }

    private static void flipAbove() {
        CanBits x = bus(2);
        Due.stops("flip(0, 20000)", ARGUMENT, () -> x.flip(0, 20000));
        Due.stops("flip(0, 20001)", ARGUMENT, () -> x.flip(0, 20001));
        Due.stops("flip(0, most)", ARGUMENT, () -> x.flip(0, MOST));
        Due.goes("flip(0, 19999)", () -> x.flip(0, 19999));
        x.run(19999);
        Due.is("state(0) before 19999", 0, () -> x.state(0));
        Due.goes("flip(1, 19999) at 19999", () -> x.flip(1, 19999));
        x.run(1);
        Due.is("state(0) behind 19999", 2, () -> x.state(0));
        Due.is("state(1) behind 19999", 2, () -> x.state(1));
        Due.stops("flip(0, 19999) at 20000", ARGUMENT, () -> x.flip(0, 19999));
        Due.stops("flip(0, 20000) at 20000", ARGUMENT, () -> x.flip(0, 20000));
    }

    private static void runBelow() {
        CanBits x = sent();
        Due.fails("run(-1)", ARGUMENT, () -> x.run(-1));
        Due.fails("run(least)", ARGUMENT, () -> x.run(LEAST));
        Due.is("run(0)", 0, () -> x.run(0));
        Due.is("time()", 61, x::time);
    }

    private static void runAbove() {
        CanBits x = bus(2);
        Due.fails("run(20001) at 0", STATE, () -> x.run(20001));
        Due.fails("run(most) at 0", STATE, () -> x.run(MOST));
        Due.is("run(20000) at 0", 0, () -> x.run(20000));
        Due.is("time()", 20000, x::time);
        Due.fails("run(1) at 20000", STATE, () -> x.run(1));
        Due.fails("run(most) at 20000", STATE, () -> x.run(MOST));
        Due.fails("run(-1) at 20000", ARGUMENT, () -> x.run(-1));
        Due.is("run(0) at 20000", 0, () -> x.run(0));
        CanBits y = bus(2);
        y.run(61);
        Due.fails("run(19940) at 61", STATE, () -> y.run(19940));
        // The sum of 61 and this one goes round to below 0.
        Due.fails("run(most) at 61", STATE, () -> y.run(MOST));
        Due.is("run(19939) at 61", 0, () -> y.run(19939));
    }

    private static void runInTheLastBits() {
        CanBits x = bus(2);
        x.run(20000 - 44);
        x.send(0, 1300, 4, 3);
        x.send(0, 1300, 4, 4);
        Due.is("a frame that ends with the last bit", 1, () -> x.run(44));
        Due.is("done(0, 1)", 19999, () -> x.done(0, 1));
        Due.is("taken(1, 0, 4)", 19998, () -> x.taken(1, 0, 4));
        CanBits y = bus(2);
        y.run(20000 - 43);
        y.send(0, 1300, 4, 3);
        Due.is("a frame one bit too long", 0, () -> y.run(43));
        Due.is("taken all the same", 1, () -> y.taken(1, NONE, 0));
        Due.is("waiting(0)", 1, () -> y.waiting(0));
        Due.is("state(0)", 1, () -> y.state(0));
    }

    private static void runCounts() {
        CanBits x = bus(4);
        // Three nodes that send the very same frame are done at one bit time.
        for (int i = 0; i < 3; i++) {
            x.send(i, 1300, 4, 3);
        }
        x.send(3, 1301, 4, 2);
        Due.is("none so far", 0, () -> x.run(43));
        Due.is("three at once", 3, () -> x.run(1));
        Due.is("one behind them", 1, () -> x.run(47));
        Due.is("none behind all", 0, () -> x.run(100));
    }

    private static void timeEdges() {
        CanBits x = bus(2);
        Due.is("at first", 0, x::time);
        x.run(0);
        Due.is("behind run(0)", 0, x::time);
        x.run(1);
        Due.is("behind run(1)", 1, x::time);
        x.run(19999);
        Due.is("behind all", 20000, x::time);
    }

    private static void bitsNotGoneBy() {
        Class<?> index = ArrayIndexOutOfBoundsException.class;
        CanBits x = bus(2);
        Due.fails("bit(0) at 0", index, () -> x.bit(0));
        x.run(5);
        Due.is("bit(0)", 1, () -> x.bit(0));
        Due.is("bit(4)", 1, () -> x.bit(4));
        Due.fails("bit(5) at 5", index, () -> x.bit(5));
        Due.fails("bit(6) at 5", index, () -> x.bit(6));
        Due.fails("bit(most)", index, () -> x.bit(MOST));
        x.run(19995);
        Due.is("bit(19999)", 1, () -> x.bit(19999));
        Due.fails("bit(20000)", index, () -> x.bit(20000));
        x.nodes(2);
        Due.fails("bit(0) behind nodes", index, () -> x.bit(0));
    }

    private static void bitsBelow() {
        Class<?> index = ArrayIndexOutOfBoundsException.class;
        CanBits x = sent();
        Due.fails("bit(-1)", index, () -> x.bit(-1));
        Due.fails("bit(least)", index, () -> x.bit(LEAST));
    }

    private static void checkKinds() {
        CanBits x = sent();
        for (int wrong : new int[] {-1, 3, LEAST, MOST}) {
            Due.fails("check(" + wrong + ", 0, 0)", ARGUMENT, () -> x.check(wrong, 0, 0));
            Due.fails("check(" + wrong + ", 0, 62): named first", ARGUMENT, () -> x.check(wrong, 0, 62));
            Due.fails("check(" + wrong + ", -1, -2): named first", ARGUMENT, () -> x.check(wrong, -1, -2));
        }
        for (int kind = 0; kind < 3; kind++) {
            int of = kind;
            int width = new int[] {15, 17, 21}[kind];
            StringBuilder bits = new StringBuilder();
            for (int i = 0; i < 61; i++) {
                bits.append(x.bit(i));
            }
            Due.is("check(" + kind + ", 0, 61)", Integer.parseInt(Rows.check(width, bits.toString()), 2),
                    () -> x.check(of, 0, 61));
        }
    }

    private static void checkRanges() {
        int[] starts = {0, 1 << 16, 1 << 20};
        int[][] wrong = {{-1, 5}, {-1, -1}, {LEAST, 5}, {5, 4}, {1, 0}, {0, 62}, {61, 62}, {62, 62}, {0, MOST},
            {MOST, MOST}, {MOST, LEAST}, {LEAST, MOST}, {61, 60}, {0, -1}};
        for (int kind = 0; kind < 3; kind++) {
            int of = kind;
            CanBits x = sent();
            for (int[] range : wrong) {
                Due.fails("check(" + kind + ", " + range[0] + ", " + range[1] + ")", INDEX,
                        () -> x.check(of, range[0], range[1]));
            }
            for (int at : new int[] {0, 1, 60, 61}) {
                Due.is("check(" + kind + ", " + at + ", " + at + ")", starts[kind], () -> x.check(of, at, at));
            }
            CanBits y = bus(2);
            Due.is("check(" + kind + ", 0, 0) at 0", starts[kind], () -> y.check(of, 0, 0));
            Due.fails("check(" + kind + ", 0, 1) at 0", INDEX, () -> y.check(of, 0, 1));
        }
    }

    private static void checkLeavesOutTheLast() {
        CanBits x = sent();
        // The bits are 0001 .. 1: behind 0s alone the register of 15 bits stays 0, and one 1 makes it 17817.
        Due.is("check(0, 0, 3), the 1 at 3 being left out", 0, () -> x.check(0, 0, 3));
        Due.is("check(0, 0, 4), the 1 at 3 being the last", 17817, () -> x.check(0, 0, 4));
        Due.is("check(0, 3, 4), the 1 at 3 being the first", 17817, () -> x.check(0, 3, 4));
        Due.is("check(0, 60, 61), the last bit of all", 17817, () -> x.check(0, 60, 61));
    }

    private static void stateOfWhatIsNotThere() {
        needsNode("state", CanBits::state);
    }

    private static void statesBeforeTheNextBit() {
        CanBits x = bus(2);
        x.send(0, 1300, 4, 3);
        Due.is("a node with a frame", 0, () -> x.state(0));
        x.run(0);
        Due.is("behind run(0)", 0, () -> x.state(0));
        x.run(1);
        Due.is("behind a bit", 1, () -> x.state(0));
    }

    private static void waitingOfWhatIsNotThere() {
        needsNode("waiting", CanBits::waiting);
    }

    private static void waitingEdges() {
        CanBits x = bus(2);
        for (int i = 0; i < 200; i++) {
            x.send(1, 1300, 4, 3);
        }
        Due.is("waiting(1), all of them", 200, () -> x.waiting(1));
        Due.is("waiting(0), none of them", 0, () -> x.waiting(0));
        Due.fails("one more", STATE, () -> x.send(1, 1300, 4, 3));
        Due.is("waiting(1) behind a refusal", 200, () -> x.waiting(1));
        x.run(44);
        Due.is("waiting(1), one DONE", 199, () -> x.waiting(1));
        x.run(19900);
        Due.is("waiting(1), all DONE", 0, () -> x.waiting(1));
    }

    private static void doneOfWhatIsNotThere() {
        CanBits none = bus(2);
        Due.fails("done(0, 0) of none", INDEX, () -> none.done(0, 0));
        Due.fails("done(0, 1) of none", INDEX, () -> none.done(0, 1));
        CanBits x = sent();
        for (int wrong : new int[] {-2, 1, 2, LEAST, MOST}) {
            Due.fails("done(" + wrong + ", 0) of one", INDEX, () -> x.done(wrong, 0));
            Due.fails("done(" + wrong + ", 1) of one", INDEX, () -> x.done(wrong, 1));
        }
        Due.fails("done(NONE, 1)", INDEX, () -> x.done(NONE, 1));
        Due.is("done(0, 1)", 60, () -> x.done(0, 1));
    }

    private static void doneOfNoSuchThing() {
        CanBits x = sent();
        for (int wrong : new int[] {-1, 2, 3, LEAST, MOST}) {
            Due.fails("done(0, " + wrong + ")", ARGUMENT, () -> x.done(0, wrong));
            Due.fails("done(1, " + wrong + "): named first", INDEX, () -> x.done(1, wrong));
            Due.fails("done(NONE, " + wrong + "): named first", INDEX, () -> x.done(NONE, wrong));
        }
    }

    private static void doneCounts() {
        CanBits none = bus(2);
        Due.is("done(NONE, 0) of none", 0, () -> none.done(NONE, 0));
        CanBits x = bus(2);
        for (int i = 0; i < 200; i++) {
            x.send(0, 1300, 4, 3);
        }
        x.run(200 * 47);
        Due.is("done(NONE, 0) of all", 200, () -> x.done(NONE, 0));
        Due.is("done(199, 0)", 199, () -> x.done(199, 0));
        Due.is("done(199, 1)", 199 * 47 + 43, () -> x.done(199, 1));
        Due.fails("done(200, 0)", INDEX, () -> x.done(200, 0));
        x.nodes(2);
        Due.is("done(NONE, 0) behind nodes", 0, () -> x.done(NONE, 0));
        Due.fails("done(0, 0) behind nodes", INDEX, () -> x.done(0, 0));
    }

    private static void takenOfWhatIsNotThere() {
        needsNode("taken", (x, node) -> x.taken(node, NONE, 0));
        CanBits x = sent();
        Due.fails("taken(0, 0, 0) of none", INDEX, () -> x.taken(0, 0, 0));
        for (int what = 0; what < 5; what++) {
            int of = what;
            for (int wrong : new int[] {-2, 1, 2, LEAST, MOST}) {
                Due.fails("taken(1, " + wrong + ", " + what + ")", INDEX, () -> x.taken(1, wrong, of));
            }
            Due.fails("taken(3, 0, " + what + ")", INDEX, () -> x.taken(3, 0, of));
            if (what > 0) {
                Due.fails("taken(1, NONE, " + what + ")", INDEX, () -> x.taken(1, NONE, of));
            }
        }
    }

    private static void takenOfNoSuchThing() {
        CanBits x = sent();
        for (int wrong : new int[] {-1, 5, 6, LEAST, MOST}) {
            Due.fails("taken(1, 0, " + wrong + ")", ARGUMENT, () -> x.taken(1, 0, wrong));
            Due.fails("taken(1, 1, " + wrong + "): named first", INDEX, () -> x.taken(1, 1, wrong));
            Due.fails("taken(1, NONE, " + wrong + "): named first", INDEX, () -> x.taken(1, NONE, wrong));
            Due.fails("taken(3, 0, " + wrong + "): named first", INDEX, () -> x.taken(3, 0, wrong));
        }
        Due.is("taken(1, 0, 4)", 59, () -> x.taken(1, 0, 4));
    }

    private static void takenCounts() {
        CanBits x = bus(3);
        Due.is("of none", 0, () -> x.taken(1, NONE, 0));
        for (int i = 0; i < 200; i++) {
            x.send(0, 1300, 4, 3);
        }
        x.run(200 * 47);
        Due.is("a listener's", 200, () -> x.taken(1, NONE, 0));
        Due.is("another listener's", 200, () -> x.taken(2, NONE, 0));
        Due.is("the sender's", 0, () -> x.taken(0, NONE, 0));
        Due.is("taken(2, 199, 4)", 199 * 47 + 42, () -> x.taken(2, 199, 4));
        Due.fails("taken(2, 200, 4)", INDEX, () -> x.taken(2, 200, 4));
    }

    /** The most that 20000 bits have room for: the shortest frames, each from the third bit of a pause on. */
    private static void takenMost() {
        String row = Rows.row(1300, 4, 3);
        CanBits x = bus(1);
        for (int at = 0; at + row.length() <= 20000; at += row.length() + 2) {
            Feed.plant(x, 0, at, row);
        }
        x.run(20000);
        Due.is("errors", 0, () -> x.error(NONE, 0));
        Due.is("taken(0, NONE, 0)", 434, () -> x.taken(0, NONE, 0));
        Due.is("taken(0, 433, 0)", 1300, () -> x.taken(0, 433, 0));
        Due.is("taken(0, 433, 4)", 433 * 46 + 42, () -> x.taken(0, 433, 4));
    }

    /** The most octets that 20000 bits have room for: the longest frames, each from a pause's third bit on. */
    private static void takenMostOctets() {
        int[] octets = new int[64];
        java.util.Arrays.fill(octets, 0b01101110);
        String row = Rows.row(1365, 2, 15, octets);
        CanBits x = bus(1);
        int frames = 0;
        for (int at = 0; at + row.length() <= 20000; at += row.length() + 2) {
            Feed.plant(x, 0, at, row);
            frames++;
        }
        x.run(20000);
        int count = frames;
        Due.is("taken(0, NONE, 0)", count, () -> x.taken(0, NONE, 0));
        Due.is("takenOctet of the last of the last", 0b01101110, () -> x.takenOctet(0, count - 1, 63));
        Due.fails("takenOctet of one more", INDEX, () -> x.takenOctet(0, count - 1, 64));
    }

    private static void takenOctetOfWhatIsNotThere() {
        CanBits x = sent();
        for (int wrong : new int[] {-1, 3, 32, LEAST, MOST}) {
            Due.fails("takenOctet(" + wrong + ", 0, 0)", INDEX, () -> x.takenOctet(wrong, 0, 0));
        }
        for (int wrong : new int[] {-2, NONE, 1, LEAST, MOST}) {
            Due.fails("takenOctet(1, " + wrong + ", 0)", INDEX, () -> x.takenOctet(1, wrong, 0));
        }
        for (int wrong : new int[] {-1, 2, 8, 64, LEAST, MOST}) {
            Due.fails("takenOctet(1, 0, " + wrong + ")", INDEX, () -> x.takenOctet(1, 0, wrong));
        }
        Due.is("takenOctet(1, 0, 0)", 165, () -> x.takenOctet(1, 0, 0));
        Due.is("takenOctet(1, 0, 1)", 90, () -> x.takenOctet(1, 0, 1));
        // What follows in time is not an octet more of what was before.
        x.send(0, 1, 0, 2);
        x.octet(1, 0, 77);
        x.run(200);
        Due.fails("takenOctet(1, 0, 2), another frame behind it", INDEX, () -> x.takenOctet(1, 0, 2));
        Due.is("takenOctet(1, 1, 0)", 77, () -> x.takenOctet(1, 1, 0));
        CanBits remote = bus(2);
        remote.send(0, 1300, 4, 3);
        remote.run(60);
        Due.is("a remote frame's code", 3, () -> remote.taken(1, 0, 2));
        Due.fails("a remote frame's octet", INDEX, () -> remote.takenOctet(1, 0, 0));
    }

    private static void errorOfWhatIsNotThere() {
        CanBits none = bus(2);
        Due.fails("error(0, 0) of none", INDEX, () -> none.error(0, 0));
        CanBits x = failing(2);
        for (int what = 0; what < 3; what++) {
            int of = what;
            for (int wrong : new int[] {-2, 2, 3, LEAST, MOST}) {
                Due.fails("error(" + wrong + ", " + what + ") of two", INDEX, () -> x.error(wrong, of));
            }
        }
        Due.fails("error(NONE, 1)", INDEX, () -> x.error(NONE, 1));
        Due.fails("error(NONE, 2)", INDEX, () -> x.error(NONE, 2));
        Due.is("error(1, 0)", 4, () -> x.error(1, 0));
    }

    private static void errorOfNoSuchThing() {
        CanBits x = failing(1);
        for (int wrong : new int[] {-1, 3, 4, LEAST, MOST}) {
            Due.fails("error(0, " + wrong + ")", ARGUMENT, () -> x.error(0, wrong));
            Due.fails("error(1, " + wrong + "): named first", INDEX, () -> x.error(1, wrong));
            Due.fails("error(NONE, " + wrong + "): named first", INDEX, () -> x.error(NONE, wrong));
        }
    }

    private static void errorCounts() {
        CanBits none = bus(2);
        Due.is("of none", 0, () -> none.error(NONE, 0));
        for (int times = 1; times < 4; times++) {
            CanBits x = failing(times);
            Due.is("of " + times, times, () -> x.error(NONE, 0));
            int last = times - 1;
            Due.is("the last one's bit time", x.time() - 1, () -> x.error(last, 2));
            x.nodes(1);
            Due.is("behind nodes", 0, () -> x.error(NONE, 0));
            Due.fails("behind nodes", INDEX, () -> x.error(0, 0));
        }
    }

    private static void errorsByTimesThenNodes() {
        CanBits x = bus(32);
        // All see six times 0: a stuff error of each at bit time 5, of node 31 a bit later.
        for (int node = 0; node < 31; node++) {
            Feed.plant(x, node, 0, "000000");
        }
        x.flip(31, 0);
        x.run(6);
        Due.is("error(NONE, 0)", 31, () -> x.error(NONE, 0));
        for (int i = 0; i < 31; i++) {
            int at = i;
            Due.is("error(" + at + ", 1)", at, () -> x.error(at, 1));
            Due.is("error(" + at + ", 2)", 5, () -> x.error(at, 2));
        }
        // Node 31 heard 0 11111, and sees the 0 of all flags as a stuff bit.
        x.run(20);
        Due.is("error(31, 1)", 31, () -> x.error(31, 1));
        Due.is("error(31, 2) is later", 1, () -> x.error(31, 2) > 5 ? 1 : 0);
    }

    /** The most errors that there can be: 32 nodes with one each eight bit times, from bit time 0 on. */
    private static void errorsMost() {
        CanBits x = bus(32);
        for (int node = 0; node < 32; node++) {
            x.send(node, 1, 0, 0);
            // A bit error at 0; six of the flag and one of waiting later it sees 0 in clearing.
            for (int at = 0; at < 20000; at += 8) {
                x.flip(node, at);
            }
        }
        x.run(20000);
        Due.is("error(NONE, 0)", 80000, () -> x.error(NONE, 0));
        Due.is("error(0, 0)", 0, () -> x.error(0, 0));
        Due.is("error(32, 0)", 2, () -> x.error(32, 0));
        Due.is("error(79999, 0)", 2, () -> x.error(79999, 0));
        Due.is("error(79999, 1)", 31, () -> x.error(79999, 1));
        Due.is("error(79999, 2)", 19992, () -> x.error(79999, 2));
        Due.fails("error(80000, 0)", INDEX, () -> x.error(80000, 0));
    }

    public static void main(String[] args) {
        promises1To5();
        promises6To11();
        promises12To17();
        Due.end();
    }

    private static void promises1To5() {
        Due.sentence("Two nodes, as behind nodes(2)", CallEdgesTest::newObject);
        Due.sentence("nodes: IllegalArgumentException when nodes is above 32", CallEdgesTest::tooManyNodes);
        Due.sentence("nodes: NegativeArraySizeException when below 0", CallEdgesTest::tooFewNodes);
        Due.sentence("All begins anew at bit time 0, without frames, all QUIET", CallEdgesTest::beginsAnew);
        Due.sentence("filters that take all (mask and match 0)", CallEdgesTest::filtersTakeAll);
        Due.sentence("A frame more in a node's row: its number", CallEdgesTest::numbers);
        Due.sentence("send: IndexOutOfBoundsException",
                () -> needsNode("send", (x, node) -> x.send(node, 1, 0, 0)));
        Due.sentence("send: IllegalStateException when there are 200 frames", CallEdgesTest::twoHundredFrames);
        Due.sentence("octet: IndexOutOfBoundsException", CallEdgesTest::octetOfWhatIsNotThere);
        Due.sentence("octet: IllegalArgumentException when b is not 0 .. 255", CallEdgesTest::octetValues);
        Due.sentence("octet: IllegalStateException when a node is SENDING it, or it is DONE",
                CallEdgesTest::octetWhileSending);
        Due.sentence("octet: when a node is SENDING it (and not otherwise)", CallEdgesTest::octetWhileNotSending);
        Due.sentence("stuffed: IndexOutOfBoundsException", CallEdgesTest::stuffedOfWhatIsNotThere);
        Due.sentence("How many bits a frame's row has", CallEdgesTest::stuffedOfTheShortestAndLongest);
    }

    private static void promises6To11() {
        Due.sentence("filter: IndexOutOfBoundsException", CallEdgesTest::filterOfWhatIsNotThere);
        Due.sentence("if (identifier & mask) is match in the node's filter", CallEdgesTest::filterEdges);
        Due.sentence("flip: IndexOutOfBoundsException", CallEdgesTest::flipOfWhatIsNotThere);
        Due.sentence("(told again it is the same one)", CallEdgesTest::flipToldAgain);
        Due.sentence("flip: IllegalArgumentException when that has gone by", CallEdgesTest::flipGoneBy);
        Due.sentence("flip: or is above 19999", CallEdgesTest::flipAbove);
        Due.sentence("run: IllegalArgumentException when bits is below 0", CallEdgesTest::runBelow);
        Due.sentence("run: IllegalStateException when there would be more than 20000 bits", CallEdgesTest::runAbove);
        Due.sentence("So many bit times go by (the last ones)", CallEdgesTest::runInTheLastBits);
        Due.sentence("how many frames were DONE", CallEdgesTest::runCounts);
        Due.sentence("How many bit times have gone by", CallEdgesTest::timeEdges);
        Due.sentence("ArrayIndexOutOfBoundsException when that has not gone by", CallEdgesTest::bitsNotGoneBy);
        Due.sentence("ArrayIndexOutOfBoundsException when that is below 0", CallEdgesTest::bitsBelow);
        Due.sentence("check: IllegalArgumentException when there is no such kind", CallEdgesTest::checkKinds);
        Due.sentence("IndexOutOfBoundsException when not 0 <= from <= to <= time()", CallEdgesTest::checkRanges);
        Due.sentence("from one bit time up to another one (that one not)", CallEdgesTest::checkLeavesOutTheLast);
    }

    private static void promises12To17() {
        Due.sentence("state: IndexOutOfBoundsException", CallEdgesTest::stateOfWhatIsNotThere);
        Due.sentence("(before the next bit)", CallEdgesTest::statesBeforeTheNextBit);
        Due.sentence("waiting: IndexOutOfBoundsException", CallEdgesTest::waitingOfWhatIsNotThere);
        Due.sentence("How many frames a node has in its row", CallEdgesTest::waitingEdges);
        Due.sentence("done: IndexOutOfBoundsException", CallEdgesTest::doneOfWhatIsNotThere);
        Due.sentence("done: IllegalArgumentException when what is none of these", CallEdgesTest::doneOfNoSuchThing);
        Due.sentence("done: i NONE with what = 0: how many there are", CallEdgesTest::doneCounts);
        Due.sentence("taken: IndexOutOfBoundsException", CallEdgesTest::takenOfWhatIsNotThere);
        Due.sentence("taken: IllegalArgumentException when what is none of these", CallEdgesTest::takenOfNoSuchThing);
        Due.sentence("taken: i NONE with what = 0: how many there are", CallEdgesTest::takenCounts);
        Due.sentence("taken: how many there are (the most)", CallEdgesTest::takenMost);
        Due.sentence("Octet k of the i-th frame that a node TOOK (the most)", CallEdgesTest::takenMostOctets);
        Due.sentence("takenOctet: IndexOutOfBoundsException", CallEdgesTest::takenOctetOfWhatIsNotThere);
        Due.sentence("error: IndexOutOfBoundsException", CallEdgesTest::errorOfWhatIsNotThere);
        Due.sentence("error: IllegalArgumentException when what is none of these", CallEdgesTest::errorOfNoSuchThing);
        Due.sentence("error: i NONE with what = 0: how many there are", CallEdgesTest::errorCounts);
        Due.sentence("by bit times, then nodes", CallEdgesTest::errorsByTimesThenNodes);
        Due.sentence("error: how many there are (the most)", CallEdgesTest::errorsMost);
    }
}
