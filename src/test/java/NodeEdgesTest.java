/** What a node is: each sentence of the section Terms that names an edge has a test of its own. */
public final class NodeEdgesTest {
    private static final int QUIET = 0;
    private static final int SENDING = 1;
    private static final int LISTENING = 2;
    private static final int FLAGGING = 3;
    private static final int WAITING = 4;
    private static final int CLEARING = 5;
    private static final int PAUSING = 6;
    private static final int BIT = 0;
    private static final int STUFF = 1;
    private static final int FORM = 2;
    private static final int CHECK = 3;
    private static final int ACKNOWLEDGE = 4;
    private static final int OVERLOAD = 5;
    // Six times 0 are a stuff error at bit time 5; then flags at 6 to 11, and with 1 at 12 clearing at 13 to 19.
    private static final String SIX = "000000";
    private static final int LAST_FLAG = 11;
    private static final int LAST_CLEARING = 19;

    private static CanBits bus(int nodes) {
        CanBits x = new CanBits();
        x.nodes(nodes);
        return x;
    }

    private static CanBits lone() {
        return bus(1);
    }

    /** A lone node behind a stuff error at bit time 5, that sees 0 at these bit times, too, and has run so far. */
    private static CanBits failed(int time, int... zeros) {
        CanBits x = lone();
        Feed.plant(x, 0, 0, SIX);
        for (int at : zeros) {
            // The node itself puts 0 where it flags: to turn that would show it a 1.
            x.flip(0, at);
        }
        x.run(time);
        return x;
    }

    private static void stateIs(String name, CanBits x, int node, int want) {
        Due.is(name + ", state(" + node + ")", want, () -> x.state(node));
    }

    private static void errorsAre(String name, CanBits x, int... wants) {
        Due.is(name + ", errors", wants.length / 3, () -> x.error(CanBits.NONE, 0));
        for (int i = 0; i < wants.length; i++) {
            int k = i;
            Due.is(name + ", error(" + k / 3 + ", " + k % 3 + ")", wants[k], () -> x.error(k / 3, k % 3));
        }
    }

    private static void takenIs(String name, CanBits x, int node, int want) {
        Due.is(name + ", taken(" + node + ", NONE, 0)", want, () -> x.taken(node, CanBits.NONE, 0));
    }

    private static void quietWithoutFrames() {
        CanBits x = lone();
        x.run(50);
        stateIs("a node without frames that sees 1", x, 0, QUIET);
        Due.is("what it put", 1, () -> x.bit(49));
        x.flip(0, 50);
        x.run(1);
        Due.is("what it put when it saw 0", 1, () -> x.bit(50));
        stateIs("a node that saw 0", x, 0, LISTENING);
        // That 0 is the first bit: with four more it is five, and the sixth is an error.
        Feed.plant(x, 0, 51, "00000");
        x.run(4);
        errorsAre("five times 0", x);
        x.run(1);
        errorsAre("six times 0", x, STUFF, 0, 55);
    }

    private static void quietWithFrames() {
        CanBits x = bus(2);
        x.send(0, 5, 0, 0);
        stateIs("before its first bit", x, 0, QUIET);
        x.run(1);
        stateIs("behind its first bit", x, 0, SENDING);
        Due.is("what it put", 0, () -> x.bit(0));
        stateIs("the other", x, 1, LISTENING);
    }

    private static void firstOfDifferent() {
        // They differ in the last bit of the identifier, of the code, of the last octet, and in r.
        int[][][] pairs = {{{5, 0, 0, 0}, {4, 0, 0, 0}}, {{4, 0, 1, 0}, {4, 0, 0, 0}}, {{4, 0, 1, 1}, {4, 0, 1, 0}},
            {{4, 4, 0, 0}, {4, 0, 0, 0}}, {{4, 2, 0, 0}, {4, 0, 15, 0}}, {{0, 1, 0, 0}, {0, 4, 15, 0}},
            {{1, 5, 0, 0}, {1, 3, 15, 0}}, {{1, 3, 1, 128}, {1, 3, 1, 127}}};
        for (int[][] pair : pairs) {
            CanBits x = bus(2);
            for (int i = 0; i < 2; i++) {
                x.send(0, pair[i][0], pair[i][1], pair[i][2]);
                if (pair[i][3] != 0) {
                    x.octet(i, 0, pair[i][3]);
                }
            }
            x.run(1500);
            String name = "of " + java.util.Arrays.deepToString(pair);
            Due.is(name + ", done(0, 0)", 1, () -> x.done(0, 0));
            Due.is(name + ", done(1, 0)", 0, () -> x.done(1, 0));
        }
    }

    private static void firstOfEqual() {
        CanBits x = bus(2);
        for (int i = 0; i < 3; i++) {
            x.send(0, 5, 2, 12);
            x.octet(i, 23, 7);
        }
        // Frame 0 is equal to the others only once it has been changed back.
        x.octet(0, 23, 8);
        x.octet(0, 23, 7);
        x.run(2000);
        for (int i = 0; i < 3; i++) {
            int at = i;
            Due.is("done(" + at + ", 0)", at, () -> x.done(at, 0));
        }
    }

    /** A sender alone in its own eyes: it sees the other bit at one place of its row. */
    private static CanBits sentWithFlip(int identifier, int kind, int at) {
        CanBits x = bus(2);
        x.send(0, identifier, kind, 0);
        x.flip(0, at);
        x.run(at + 1);
        return x;
    }

    private static void arbitrationOfShort() {
        // 0 10101010101 r 0: bit 1 is the first that can be lost, 12 the last, if it is r of a REMOTE one.
        for (int at : new int[] {1, 11, 12}) {
            CanBits x = sentWithFlip(1365, 4, at);
            stateIs("1 at bit " + at + " that is seen as 0", x, 0, LISTENING);
            errorsAre("1 at bit " + at + " that is seen as 0", x);
        }
        for (int at : new int[] {0, 2, 10, 13}) {
            CanBits x = sentWithFlip(1365, 4, at);
            stateIs("0 at bit " + at + " that is seen as 1", x, 0, FLAGGING);
            errorsAre("0 at bit " + at + " that is seen as 1", x, BIT, 0, at);
        }
        errorsAre("1 at bit 14 that is seen as 0", sentWithFlip(1365, 2, 14), BIT, 0, 14);
    }

    private static void arbitrationOfLong() {
        int identifier = 0b10101010101_101010101010101010;
        // 0 10101010101 11 101010101010101010 r: 12 and 13 are 1, 32 is r of a REMOTE one.
        for (int at : new int[] {1, 11, 12, 13, 14, 30, 32}) {
            CanBits x = sentWithFlip(identifier, 5, at);
            stateIs("1 at bit " + at + " that is seen as 0", x, 0, LISTENING);
            errorsAre("1 at bit " + at + " that is seen as 0", x);
        }
        for (int at : new int[] {0, 10, 15, 31, 33}) {
            errorsAre("0 at bit " + at + " that is seen as 1", sentWithFlip(identifier, 5, at), BIT, 0, at);
        }
        errorsAre("1 at bit 33 that is seen as 0", sentWithFlip(identifier, 3, 33), BIT, 0, 33);
    }

    private static void arbitrationWithoutStuffBits() {
        // 00000, and the stuff bit 1 at bit time 5.
        errorsAre("a stuff bit seen as 0", sentWithFlip(21, 0, 5), BIT, 0, 5);
        // Behind stuff bits the plain bits lag: r of identifier 0 stands at 14, 1 at 14 of the row is r.
        CanBits x = sentWithFlip(0, 4, 14);
        stateIs("r behind two stuff bits", x, 0, LISTENING);
        errorsAre("r behind two stuff bits", x);
        // 11111 and the stuff bit 0 at bit time 6.
        errorsAre("a stuff bit seen as 1", sentWithFlip(0b11111010101, 0, 6), BIT, 0, 6);
    }

    private static void losersHeardAll() {
        // The winner has stuff bits before, at, and behind the bit where the other loses.
        int[][] pairs = {{0, 1}, {0, 128}, {2046, 2047}, {0b11111000000, 0b11111000001}, {0, 1024}};
        for (int[] pair : pairs) {
            CanBits x = bus(2);
            x.send(0, pair[1], 0, 1);
            x.send(1, pair[0], 0, 1);
            x.octet(1, 0, 93);
            int length = x.stuffed(1);
            String name = pair[1] + " loses against " + pair[0];
            Due.is(name + ", run", 1, () -> x.run(length));
            errorsAre(name, x);
            Due.is(name + ", done(0, 0)", 1, () -> x.done(0, 0));
            Due.is(name + ", identifier taken", pair[0], () -> x.taken(0, 0, 0));
            Due.is(name + ", octet taken", 93, () -> x.takenOctet(0, 0, 0));
            Due.is(name + ", waiting(0)", 1, () -> x.waiting(0));
            stateIs(name, x, 0, PAUSING);
            int next = x.stuffed(0);
            Due.is(name + ", and is sent then", 1, () -> x.run(3 + next));
        }
    }

    private static void bitErrorAtBothEnds() {
        errorsAre("the first bit", sentWithFlip(1365, 0, 0), BIT, 0, 0);
        int length = Rows.row(1365, 0, 0).length();
        CanBits x = sentWithFlip(1365, 0, length - 1);
        errorsAre("the last END", x, BIT, 0, length - 1);
        Due.is("done", 0, () -> x.done(CanBits.NONE, 0));
        Due.is("waiting(0)", 1, () -> x.waiting(0));
        errorsAre("CHECK END", sentWithFlip(1365, 0, length - 10), BIT, 0, length - 10);
        errorsAre("ACKNOWLEDGE END", sentWithFlip(1365, 0, length - 8), BIT, 0, length - 8);
    }

    private static void acknowledged() {
        int length = Rows.row(1365, 0, 0).length();
        // Nobody there: 1 at ACKNOWLEDGE.
        CanBits x = lone();
        x.send(0, 1365, 0, 0);
        x.run(length - 9);
        errorsAre("before ACKNOWLEDGE", x);
        x.run(1);
        errorsAre("at ACKNOWLEDGE", x, ACKNOWLEDGE, 0, length - 9);
        // A 0 that is a flip's is as good as another's.
        CanBits y = lone();
        y.send(0, 1365, 0, 0);
        y.flip(0, length - 9);
        Due.is("run with a 0 at ACKNOWLEDGE", 1, () -> y.run(length));
        errorsAre("a 0 at ACKNOWLEDGE", y);
        // Two that send the very same frame do not acknowledge each other.
        CanBits z = bus(2);
        z.send(0, 1365, 0, 0);
        z.send(1, 1365, 0, 0);
        z.run(length);
        errorsAre("two senders of one frame", z, ACKNOWLEDGE, 0, length - 9, ACKNOWLEDGE, 1, length - 9);
        CanBits turned = sentWithFlip(1365, 0, length - 9);
        errorsAre("an acknowledge seen as 1", turned, ACKNOWLEDGE, 0, length - 9);
    }

    private static void doneBehindTheLastEnd() {
        CanBits x = bus(2);
        x.send(0, 1365, 0, 0);
        int length = x.stuffed(0);
        Due.is("run before the last END", 0, () -> x.run(length - 1));
        Due.is("waiting(0)", 1, () -> x.waiting(0));
        stateIs("before the last END", x, 0, SENDING);
        Due.is("run of the last END", 1, () -> x.run(1));
        Due.is("waiting(0)", 0, () -> x.waiting(0));
        stateIs("behind the last END", x, 0, PAUSING);
    }

    /** What the last bit of a text is to a lone node that sees it, -1 if it is no error. */
    private static void lastBit(String name, String text, int kind) {
        CanBits x = Feed.seen(text);
        if (kind == CanBits.NONE) {
            errorsAre(name, x);
        } else {
            errorsAre(name, x, kind, 0, text.length() - 1);
        }
    }

    private static void acknowledgesIfRight() {
        String row = Rows.row(1365, 0, 1, 170);
        int end = row.length() - 10;
        CanBits x = Feed.seen(row);
        Due.is("CHECK END", 1, () -> x.bit(end));
        Due.is("ACKNOWLEDGE", 0, () -> x.bit(end + 1));
        Due.is("ACKNOWLEDGE END", 1, () -> x.bit(end + 2));
        String wrong = wrongCheck(1);
        CanBits y = Feed.seen(wrong + "11");
        Due.is("ACKNOWLEDGE of a wrong check", 1, () -> y.bit(wrong.length() + 1));
        // A filter takes nothing from the acknowledge.
        CanBits z = lone();
        z.filter(0, 0, 1);
        Feed.plant(z, 0, 0, row);
        z.run(row.length());
        Due.is("ACKNOWLEDGE of what a filter leaves out", 0, () -> z.bit(end + 1));
    }

    private static void kindsTold() {
        // Bit 12 may be 1 in SHORT FLEXIBLE and 0 in LONG ones, bit 32 may be 1 in LONG FLEXIBLE ones.
        int identifier = 1365 << 18 | 0x15555;
        int[][] turns = {{2, 12}, {1, 12}, {3, 12}, {5, 12}, {3, 32}};
        for (int[] turn : turns) {
            int kind = turn[0];
            String body = Feed.turned(Rows.body(kind == 2 ? 1365 : identifier, kind, 9, 170), turn[1]);
            int octets = Rows.octets(kind, 9);
            CanBits x = Feed.seen((kind == 2 || kind == 3 ? Rows.flexible(body, octets) : Rows.classic(body)) + Rows.TAIL);
            String name = "kind " + kind + " with bit " + turn[1] + " turned";
            errorsAre(name, x);
            Due.is(name + ", kind taken", kind, () -> x.taken(0, 0, 1));
            Due.is(name + ", octets taken", octets, () -> x.taken(0, 0, 3));
        }
    }

    private static void reservedBit() {
        lastBit("bit 15 of SHORT FLEXIBLE ones", "0" + "10101010101" + "00" + "11", FORM);
        lastBit("bit 15 being 0", "0" + "10101010101" + "00" + "10", CanBits.NONE);
        lastBit("bits 16 and 17 as they come", "0" + "10101010101" + "00" + "1011", CanBits.NONE);
        lastBit("bit 15 of SHORT ones", "0" + "10101010101" + "00" + "01", CanBits.NONE);
        String upTo = "0" + "10101010101" + "11" + "010101010101010101" + "0";
        lastBit("bit 34 of LONG FLEXIBLE ones", upTo + "11", FORM);
        lastBit("bit 34 being 0", upTo + "10", CanBits.NONE);
        lastBit("bits 35 and 36 as they come", upTo + "1011", CanBits.NONE);
        lastBit("bit 34 of LONG ones", upTo + "01", CanBits.NONE);
    }

    private static void sixthEqualBit() {
        lastBit("five times 0", "00000", CanBits.NONE);
        lastBit("six times 0", "000000", STUFF);
        lastBit("0, five times 1", "011111", CanBits.NONE);
        lastBit("0, six times 1", "0111111", STUFF);
        lastBit("a stuff bit and four like it", "00000" + "11111", CanBits.NONE);
        lastBit("a stuff bit and five like it", "00000" + "111111", STUFF);
    }

    private static void sixthEqualBitBehindTheCheck() {
        for (char last : new char[] {'0', '1'}) {
            String row = endsInFive(last);
            lastBit("five times " + last + " at the check's end", row, CanBits.NONE);
            lastBit("a sixth " + last, row + last, STUFF);
            lastBit("the stuff bit", row + Rows.other(last), CanBits.NONE);
            lastBit("0 behind the stuff bit, at CHECK END", row + Rows.other(last) + "0", FORM);
        }
    }

    /** A SHORT row up to its check's end, which is five times this bit. */
    private static String endsInFive(char last) {
        for (int identifier = 0; identifier < 2048; identifier++) {
            for (int code = 0; code < 16; code++) {
                String row = Rows.stuff(Rows.plain(identifier, 4, code));
                if (Rows.endsInFive(row, 0) && row.charAt(row.length() - 1) == last) {
                    return row;
                }
            }
        }
        return "";
    }

    private static void noStuffBitsInTheTail() {
        // CHECK END and all behind it are eleven times 1 and more, without an error.
        CanBits x = Feed.seen(Rows.row(1365, 0, 1, 170) + "111");
        errorsAre("ten times 1", x);
        stateIs("behind the pause", x, 0, QUIET);
    }

    private static void fixedBitLikeTheOneBefore() {
        for (int code : new int[] {10, 11}) {
            int[] octets = new int[Rows.octets(2, code)];
            java.util.Arrays.fill(octets, 170);
            String row = Rows.row(1365, 2, code, octets);
            int from = 22 + 8 * octets.length;
            for (int at = from; at < row.length() - 10; at += 5) {
                lastBit("fixed bit " + (at - from) + " of code " + code, row.substring(0, at + 1), CanBits.NONE);
                lastBit("fixed bit " + (at - from) + " turned", Feed.turned(row.substring(0, at + 1), at), STUFF);
            }
        }
    }

    private static void countAtItsLastBit() {
        String body = "0" + "10101010101" + "00" + "1000" + "1010" + "10101010".repeat(16);
        for (int n = 1; n < 8; n++) {
            String text = body + Rows.fixed('0', Rows.count(n));
            lastBit("COUNT of " + n + " before its last bit", text.substring(0, text.length() - 1), CanBits.NONE);
            lastBit("COUNT of " + n + " where none are", text, STUFF);
        }
        lastBit("COUNT with its last bit turned", body + Rows.fixed('0', "0001"), STUFF);
        lastBit("COUNT of 0", body + Rows.fixed('0', "0000"), CanBits.NONE);
    }

    private static void tailOfForms() {
        String row = Rows.row(1365, 0, 1, 170);
        int tail = row.length() - 10;
        int[] kinds = {FORM, CanBits.NONE, FORM, FORM, FORM, FORM, FORM, FORM, FORM, OVERLOAD};
        for (int i = 0; i < 10; i++) {
            lastBit("1 at " + i + " of the tail", row.substring(0, tail + i + 1), CanBits.NONE);
            lastBit("0 at " + i + " of the tail", row.substring(0, tail + i) + "0", kinds[i]);
        }
    }

    /** A SHORT row up to its check's end, the check being wrong in this bit. */
    private static String wrongCheck(int bit) {
        String body = Rows.body(1365, 0, 1, 170);
        String row = Rows.stuff(body + Feed.turned(Rows.check(15, body), bit));
        return Rows.endsInFive(row, 0) ? row + Rows.other(row.charAt(row.length() - 1)) : row;
    }

    private static void checkErrors() {
        for (int bit = 0; bit < 15; bit++) {
            String row = wrongCheck(bit);
            lastBit("a wrong check at CHECK END", row + "1", CanBits.NONE);
            lastBit("0 at CHECK END behind a wrong check", row + "0", FORM);
            lastBit("a wrong check at ACKNOWLEDGE", row + "11", CanBits.NONE);
            lastBit("a wrong check acknowledged by others", row + "10", CanBits.NONE);
            lastBit("a wrong check at ACKNOWLEDGE END", row + "111", CHECK);
            lastBit("0 at ACKNOWLEDGE END behind a wrong check", row + "110", FORM);
        }
    }

    private static void takenAtTheSixthEnd() {
        String row = Rows.row(1365, 0, 1, 170);
        int length = row.length();
        takenIs("the fifth END", Feed.seen(row.substring(0, length - 2)), 0, 0);
        CanBits x = Feed.seen(row.substring(0, length - 1));
        takenIs("the sixth END", x, 0, 1);
        Due.is("taken(0, 0, 4)", length - 2, () -> x.taken(0, 0, 4));
        takenIs("0 at the sixth END", Feed.seen(row.substring(0, length - 2) + "0"), 0, 0);
        takenIs("0 at the seventh END", Feed.seen(row.substring(0, length - 1) + "0"), 0, 1);
        takenIs("a wrong check", Feed.seen(wrongCheck(14) + Rows.TAIL), 0, 0);
    }

    private static void seventhEnd() {
        String row = Rows.row(1365, 0, 1, 170);
        int last = row.length() - 1;
        CanBits x = Feed.seen(row.substring(0, last) + "0");
        errorsAre("0 at the seventh END", x, OVERLOAD, 0, last);
        stateIs("0 at the seventh END", x, 0, FLAGGING);
        CanBits y = Feed.seen(row);
        errorsAre("1 at the seventh END", y);
        stateIs("1 at the seventh END", y, 0, PAUSING);
    }

    private static void flagsSixTimes() {
        CanBits x = lone();
        Feed.plant(x, 0, 0, SIX);
        // It sees 1 for each 0 that it puts.
        for (int at = 6; at <= LAST_FLAG; at += 2) {
            x.flip(0, at);
        }
        x.run(6);
        stateIs("behind the error", x, 0, FLAGGING);
        x.run(5);
        stateIs("behind five of the flag", x, 0, FLAGGING);
        x.run(1);
        stateIs("behind six of the flag", x, 0, WAITING);
        x.run(1);
        for (int at = 5; at <= LAST_FLAG + 1; at++) {
            int i = at;
            Due.is("bit(" + i + ")", i > 5 && i <= LAST_FLAG ? 0 : 1, () -> x.bit(i));
        }
        errorsAre("a flag", x, STUFF, 0, 5);
    }

    private static void waitsForOne() {
        CanBits x = failed(LAST_FLAG + 1);
        stateIs("before it sees 1", x, 0, WAITING);
        x.run(1);
        stateIs("behind the first 1", x, 0, CLEARING);
        int[] zeros = new int[30];
        for (int i = 0; i < 30; i++) {
            zeros[i] = LAST_FLAG + 1 + i;
        }
        CanBits y = failed(LAST_FLAG + 31, zeros);
        stateIs("behind 30 times 0", y, 0, WAITING);
        errorsAre("30 times 0", y, STUFF, 0, 5);
        Due.is("what it put", 1, () -> y.bit(LAST_FLAG + 30));
        y.run(1);
        stateIs("behind a 1", y, 0, CLEARING);
    }

    private static void clearsSevenTimes() {
        for (int i = 1; i <= 7; i++) {
            int at = LAST_CLEARING - 7 + i;
            CanBits x = failed(at + 1, at);
            errorsAre("0 at " + i + " of clearing", x, STUFF, 0, 5, i == 7 ? OVERLOAD : FORM, 0, at);
            stateIs("0 at " + i + " of clearing", x, 0, FLAGGING);
            CanBits y = failed(at + 1);
            stateIs("1 at " + i + " of clearing", y, 0, i == 7 ? PAUSING : CLEARING);
            Due.is("what it put", 1, () -> y.bit(at));
        }
    }

    private static void pausesThreeTimes() {
        for (int i = 1; i <= 3; i++) {
            CanBits x = failed(LAST_CLEARING + 1 + i);
            stateIs("1 at " + i + " of the pause", x, 0, i == 3 ? QUIET : PAUSING);
            errorsAre("1 at " + i + " of the pause", x, STUFF, 0, 5);
        }
    }

    private static void pauseOverloads() {
        for (int i = 1; i <= 2; i++) {
            int at = LAST_CLEARING + i;
            CanBits x = failed(at + 1, at);
            errorsAre("0 at " + i + " of the pause", x, STUFF, 0, 5, OVERLOAD, 0, at);
            stateIs("0 at " + i + " of the pause", x, 0, FLAGGING);
        }
    }

    private static void pauseEndsListening() {
        int at = LAST_CLEARING + 3;
        CanBits x = failed(at + 1, at);
        stateIs("0 at the third, without frames", x, 0, LISTENING);
        errorsAre("0 at the third", x, STUFF, 0, 5);
        // That 0 is the first bit of the frame that it takes.
        String row = Rows.row(1365, 0, 1, 170);
        Feed.plant(x, 0, at + 1, row.substring(1));
        x.run(row.length() - 1);
        takenIs("a frame from the third on", x, 0, 1);
        Due.is("taken(0, 0, 0)", 1365, () -> x.taken(0, 0, 0));
        Due.is("taken(0, 0, 4)", at + row.length() - 2, () -> x.taken(0, 0, 4));
    }

    private static void pauseEndsSending() {
        int at = LAST_CLEARING + 3;
        CanBits x = failed(at, at);
        x.send(0, 1365, 0, 1);
        x.send(0, 1364, 0, 1);
        stateIs("before the third", x, 0, PAUSING);
        x.run(1);
        stateIs("0 at the third, with frames", x, 0, SENDING);
        Due.is("what it put", 1, () -> x.bit(at));
        Due.stops("octet of its first frame", IllegalStateException.class, () -> x.octet(1, 0, 1));
        Due.goes("octet of another", () -> x.octet(0, 0, 1));
        int length = x.stuffed(1);
        x.flip(0, at + length - 9);
        Due.is("run: that bit counts as put", 1, () -> x.run(length - 1));
        Due.is("done(0, 0)", 1, () -> x.done(0, 0));
        Due.is("done(0, 1)", at + length - 1, () -> x.done(0, 1));
    }

    private static void quietBehindThePause() {
        int at = LAST_CLEARING + 3;
        CanBits x = failed(at + 1);
        stateIs("1 at the third", x, 0, QUIET);
        CanBits y = failed(at);
        y.send(0, 1365, 0, 0);
        y.run(1);
        stateIs("1 at the third, with frames", y, 0, QUIET);
        Due.is("what it put", 1, () -> y.bit(at));
        y.run(1);
        stateIs("the first bit", y, 0, SENDING);
        Due.is("what it put then", 0, () -> y.bit(at + 1));
    }

    private static void overloadIsTold() {
        CanBits x = failed(LAST_CLEARING + 2, LAST_CLEARING + 1);
        Due.is("error(NONE, 0)", 2, () -> x.error(CanBits.NONE, 0));
        Due.is("error(1, 0)", OVERLOAD, () -> x.error(1, 0));
        Due.is("error(1, 1)", 0, () -> x.error(1, 1));
        Due.is("error(1, 2)", LAST_CLEARING + 1, () -> x.error(1, 2));
    }

    private static void staysInItsRow() {
        CanBits x = bus(2);
        x.send(0, 1365, 0, 1);
        x.flip(0, 20);
        x.run(21);
        errorsAre("an error", x, BIT, 0, 20);
        Due.is("waiting(0) behind an error", 1, () -> x.waiting(0));
        Due.is("run: it is sent again", 1, () -> x.run(200));
        Due.is("waiting(0) behind that", 0, () -> x.waiting(0));
        CanBits y = bus(2);
        y.send(0, 1365, 0, 1);
        y.send(1, 1364, 0, 1);
        y.run(12);
        stateIs("the arbitration lost", y, 0, LISTENING);
        Due.is("waiting(0) behind that", 1, () -> y.waiting(0));
        Due.is("run: it is sent then", 2, () -> y.run(200));
        Due.is("waiting(0) in the end", 0, () -> y.waiting(0));
    }

    public static void main(String[] args) {
        quietAndSending();
        listening();
        behindErrors();
        Due.end();
    }

    private static void quietAndSending() {
        Due.sentence("otherwise 1; if it sees 0, then it is LISTENING, that 0 being the first bit",
                NodeEdgesTest::quietWithoutFrames);
        Due.sentence("It puts 0, the first bit of its first frame, if it has frames", NodeEdgesTest::quietWithFrames);
        Due.sentence("the first one that has a 0 where they differ first", NodeEdgesTest::firstOfDifferent);
        Due.sentence("equal ones: the one that was made first", NodeEdgesTest::firstOfEqual);
        Due.sentence("ARBITRATION (plain bits 0 to 13)", NodeEdgesTest::arbitrationOfShort);
        Due.sentence("of LONG ones to 32", NodeEdgesTest::arbitrationOfLong);
        Due.sentence("no stuff bits", NodeEdgesTest::arbitrationWithoutStuffBits);
        Due.sentence("it is LISTENING, with all that it saw up to here", NodeEdgesTest::losersHeardAll);
        Due.sentence("If it sees another bit than it puts: a BIT error", NodeEdgesTest::bitErrorAtBothEnds);
        Due.sentence("If it sees 1 at ACKNOWLEDGE: an ACKNOWLEDGE error", NodeEdgesTest::acknowledged);
        Due.sentence("Behind the last END the frame is DONE, and is no more in its row",
                NodeEdgesTest::doneBehindTheLastEnd);
    }

    private static void listening() {
        Due.sentence("puts 1, but at ACKNOWLEDGE 0, if the check is right", NodeEdgesTest::acknowledgesIfRight);
        Due.sentence("bit 12 of flexible or LONG ones, too", NodeEdgesTest::kindsTold);
        Due.sentence("bit 15 (34) of flexible ones must be 0", NodeEdgesTest::reservedBit);
        Due.sentence("a sixth equal bit where stuff bits are", NodeEdgesTest::sixthEqualBit);
        Due.sentence("also behind its last bit", NodeEdgesTest::sixthEqualBitBehindTheCheck);
        Due.sentence("where stuff bits are (not in the tail)", NodeEdgesTest::noStuffBitsInTheTail);
        Due.sentence("a FIXED BIT that is like the one before", NodeEdgesTest::fixedBitLikeTheOneBefore);
        Due.sentence("COUNT that is not right (at its last bit)", NodeEdgesTest::countAtItsLastBit);
        Due.sentence("0 at CHECK END or ACKNOWLEDGE END, or at one of the first six of END",
                NodeEdgesTest::tailOfForms);
        Due.sentence("the check is wrong, at ACKNOWLEDGE END, if that is 1", NodeEdgesTest::checkErrors);
        Due.sentence("At the sixth END a frame without errors is TAKEN", NodeEdgesTest::takenAtTheSixthEnd);
        Due.sentence("At the seventh one: 0 is an OVERLOAD (5); otherwise the node PAUSES",
                NodeEdgesTest::seventhEnd);
    }

    private static void behindErrors() {
        Due.sentence("it puts 0 six times, whatever it sees", NodeEdgesTest::flagsSixTimes);
        Due.sentence("it puts 1 until it sees 1", NodeEdgesTest::waitsForOne);
        Due.sentence("if it sees 0 there, that is a FORM error, or at the seventh time an OVERLOAD",
                NodeEdgesTest::clearsSevenTimes);
        Due.sentence("it puts 1 three times", NodeEdgesTest::pausesThreeTimes);
        Due.sentence("0 at the first two is an OVERLOAD", NodeEdgesTest::pauseOverloads);
        Due.sentence("at the third it is the first bit of a frame: otherwise LISTENING",
                NodeEdgesTest::pauseEndsListening);
        Due.sentence("the node is SENDING its first frame (that bit counts as put)", NodeEdgesTest::pauseEndsSending);
        Due.sentence("Behind the third it is QUIET", NodeEdgesTest::quietBehindThePause);
        Due.sentence("An OVERLOAD is told like an error", NodeEdgesTest::overloadIsTold);
        Due.sentence("A frame whose sending ended by an error, or that lost the arbitration, stays in its row",
                NodeEdgesTest::staysInItsRow);
    }
}
