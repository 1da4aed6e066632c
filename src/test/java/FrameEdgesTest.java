/** The section Terms up to the check: each sentence that names an edge has a test of its own. */
public final class FrameEdgesTest {
    private static final Class<?> ARGUMENT = IllegalArgumentException.class;
    private static final Class<?> INDEX = IndexOutOfBoundsException.class;
    // 1010.. and 170 leave no five equal bits in a row.
    private static final int SHORT_EVEN = 1365;
    private static final int LONG_EVEN = 1365 << 18 | 0x15555;

    private static int even(int kind) {
        return Rows.isLong(kind) ? LONG_EVEN : SHORT_EVEN;
    }

    private static CanBits bus(int nodes) {
        CanBits x = new CanBits();
        x.nodes(nodes);
        return x;
    }

    /** Two nodes, the first of which has one frame with these octets, and 0 behind them. */
    private static CanBits with(int identifier, int kind, int code, int... octets) {
        CanBits x = new CanBits();
        x.send(0, identifier, kind, code);
        for (int i = 0; i < octets.length; i++) {
            x.octet(0, i, octets[i]);
        }
        return x;
    }

    private static CanBits evenly(int kind, int code) {
        int[] octets = new int[Rows.octets(kind, code)];
        java.util.Arrays.fill(octets, 170);
        return with(even(kind), kind, code, octets);
    }

    /** The bits that the bus was, the acknowledge among them. */
    private static String bits(CanBits x, int from, int to) {
        StringBuilder text = new StringBuilder();
        for (int i = from; i < to; i++) {
            text.append(x.bit(i));
        }
        return text.toString();
    }

    private static String firstBits(CanBits x, int count) {
        x.run(count);
        return bits(x, 0, count);
    }

    private static void numberedFromZero() {
        // 0 10100010100 1 0 0 0011 101000101100110: 34 plain bits without stuff bits, then ten; the last is number 43.
        CanBits x = with(1300, 4, 3);
        x.run(1);
        Due.is("bit(0)", 0, () -> x.bit(0));
        x.run(43);
        Due.is("done(0, 1)", 43, () -> x.done(0, 1));
        Due.is("taken(1, 0, 4)", 42, () -> x.taken(1, 0, 4));
    }

    private static void busOfNone() {
        CanBits x = bus(0);
        Due.same("ten bits without nodes", "1111111111", firstBits(x, 10));
    }

    private static void busOfMany() {
        CanBits quiet = bus(32);
        Due.same("ten bits of 32 that put 1", "1111111111", firstBits(quiet, 10));
        for (int node = 0; node < 32; node += 31) {
            CanBits x = bus(32);
            x.send(node, SHORT_EVEN, 0, 0);
            Due.same("the bits with one sender, node " + node, "010101010101000", firstBits(x, 15));
        }
    }

    private static void flipsTurn() {
        CanBits x = bus(3);
        x.flip(1, 3);
        x.run(3);
        Due.is("state(1) before its flip", 0, () -> x.state(1));
        x.run(1);
        Due.is("state(0)", 0, () -> x.state(0));
        Due.is("state(1), 1 turned to 0", 2, () -> x.state(1));
        Due.is("state(2)", 0, () -> x.state(2));
        CanBits y = bus(3);
        y.send(0, SHORT_EVEN, 0, 0);
        y.flip(1, 0);
        y.run(1);
        Due.is("state(1), 0 turned to 1", 0, () -> y.state(1));
        Due.is("state(2)", 2, () -> y.state(2));
        y.run(1);
        Due.is("state(1), a 1 behind its flip", 0, () -> y.state(1));
        y.run(1);
        Due.is("state(1), a 0 behind its flip", 2, () -> y.state(1));
    }

    private static void codes() {
        for (int k = 0; k < 6; k++) {
            int kind = k;
            CanBits x = new CanBits();
            Due.fails("code -1 of kind " + kind, ARGUMENT, () -> x.send(0, 1, kind, -1));
            Due.fails("code 16 of kind " + kind, ARGUMENT, () -> x.send(0, 1, kind, 16));
            Due.fails("the least code of kind " + kind, ARGUMENT, () -> x.send(0, 1, kind, Integer.MIN_VALUE));
            Due.fails("the most code of kind " + kind, ARGUMENT, () -> x.send(0, 1, kind, Integer.MAX_VALUE));
            Due.is("code 0 of kind " + kind, 0, () -> x.send(0, 1, kind, 0));
            Due.is("code 15 of kind " + kind, 1, () -> x.send(0, 1, kind, 15));
            x.run(2000);
            Due.is("the code told of 0", 0, () -> x.taken(1, 0, 2));
            Due.is("the code told of 15", 15, () -> x.taken(1, 1, 2));
        }
    }

    private static void kinds() {
        CanBits x = new CanBits();
        for (int wrong : new int[] {-1, 6, 7, Integer.MIN_VALUE, Integer.MAX_VALUE}) {
            Due.fails("kind " + wrong, ARGUMENT, () -> x.send(0, 1, wrong, 0));
        }
        for (int k = 0; k < 6; k++) {
            int kind = k;
            CanBits y = new CanBits();
            Due.is("kind " + kind, 0, () -> y.send(0, 1, kind, 0));
            y.run(200);
            Due.is("the kind told of " + kind, kind, () -> y.taken(1, 0, 1));
        }
    }

    private static void identifiers() {
        for (int k = 0; k < 6; k++) {
            int kind = k;
            int most = kind % 2 == 0 ? 2047 : 536870911;
            CanBits x = new CanBits();
            Due.fails("identifier -1 of kind " + kind, ARGUMENT, () -> x.send(0, -1, kind, 0));
            Due.fails("the least identifier", ARGUMENT, () -> x.send(0, Integer.MIN_VALUE, kind, 0));
            Due.fails("one above the most of kind " + kind, ARGUMENT, () -> x.send(0, most + 1, kind, 0));
            Due.fails("the most int", ARGUMENT, () -> x.send(0, Integer.MAX_VALUE, kind, 0));
            Due.is("identifier 0 of kind " + kind, 0, () -> x.send(0, 0, kind, 0));
            Due.is("the most of kind " + kind, 1, () -> x.send(0, most, kind, 0));
            x.run(400);
            Due.is("the identifier told of 0, kind " + kind, 0, () -> x.taken(1, 0, 0));
            Due.is("the identifier told of the most, kind " + kind, most, () -> x.taken(1, 1, 0));
        }
    }

    private static void octetCounts(int kind, int... counts) {
        for (int code = 0; code < 16; code++) {
            int count = counts[code];
            CanBits x = with(1, kind, code);
            String name = " of kind " + kind + ", code " + code;
            if (count > 0) {
                Due.goes("the last octet" + name, () -> x.octet(0, count - 1, 77));
            }
            Due.stops("one octet more" + name, INDEX, () -> x.octet(0, count, 0));
            x.run(1000);
            Due.is("octets taken" + name, count, () -> x.taken(1, 0, 3));
            if (count > 0) {
                Due.is("the last octet taken" + name, 77, () -> x.takenOctet(1, 0, count - 1));
            }
            Due.fails("one octet more taken" + name, INDEX, () -> x.takenOctet(1, 0, count));
        }
    }

    private static void octetsOfClassic() {
        octetCounts(0, 0, 1, 2, 3, 4, 5, 6, 7, 8, 8, 8, 8, 8, 8, 8, 8);
        octetCounts(1, 0, 1, 2, 3, 4, 5, 6, 7, 8, 8, 8, 8, 8, 8, 8, 8);
    }

    private static void octetsOfFlexible() {
        octetCounts(2, 0, 1, 2, 3, 4, 5, 6, 7, 8, 12, 16, 20, 24, 32, 48, 64);
        octetCounts(3, 0, 1, 2, 3, 4, 5, 6, 7, 8, 12, 16, 20, 24, 32, 48, 64);
    }

    private static void octetsOfRemote() {
        octetCounts(4, new int[16]);
        octetCounts(5, new int[16]);
    }

    private static void zeroAtFirst() {
        CanBits x = new CanBits();
        for (int turn = 0; turn < 2; turn++) {
            x.nodes(2);
            x.send(0, 1, 3, 15);
            x.run(1000);
            for (int i = 0; i < 64; i++) {
                int k = i;
                Due.is("octet " + k, 0, () -> x.takenOctet(1, 0, k));
            }
            x.nodes(2);
            x.send(0, 1, 3, 15);
            for (int i = 0; i < 64; i++) {
                x.octet(0, i, 255);
            }
        }
    }

    private static void plainBits() {
        int identifier = 0b10101010101_011010101010101001;
        Due.same("LONG", "0" + "10101010101" + "11" + "011010101010101001" + "0" + "00" + "1010",
                firstBits(with(identifier, 1, 10), 39));
        Due.same("LONG REMOTE", "0" + "10101010101" + "11" + "011010101010101001" + "1" + "00" + "1010",
                firstBits(with(identifier, 5, 10), 39));
        Due.same("LONG FLEXIBLE", "0" + "10101010101" + "11" + "011010101010101001" + "0" + "1000" + "1010",
                firstBits(with(identifier, 3, 10), 41));
        Due.same("SHORT, code 5", "0" + "10101010101" + "0" + "0" + "0" + "0101", firstBits(with(1365, 0, 5), 19));
        Due.same("SHORT REMOTE", "0" + "10101010101" + "1" + "0" + "0" + "0101", firstBits(with(1365, 4, 5), 19));
        Due.same("SHORT FLEXIBLE", "0" + "10101010101" + "0" + "0" + "1000" + "1010" + "10010011",
                firstBits(with(1365, 2, 10, 0b10010011), 30));
    }

    private static void fiveEqualBits() {
        // 0000 1111: four equal bits have none; 00000: the fifth is followed by 1.
        Due.same("four equal bits", "0000" + "1111" + "0101", firstBits(with(0b00011110101, 0, 1), 12));
        Due.same("five times 0", "00000" + "1" + "1010101", firstBits(with(0b00001010101, 0, 1), 13));
        Due.same("five times 1", "011111" + "0" + "010101", firstBits(with(0b11111010101, 0, 1), 13));
    }

    private static void stuffBitsCount() {
        // The stuff bit 1 and four more are five: a stuff bit 0, and so on.
        Due.same("stuff bits that count", "00000" + "1" + "1111" + "0" + "000" + "0" + "1" + "0",
                firstBits(with(0b00001111000, 0, 8), 17));
        // All of a SHORT frame's 34 bits are 0: six stuff bits.
        Due.is("stuffed of zeros", 34 + 6 + 10, () -> with(0, 0, 0).stuffed(0));
    }

    private static void behindTheCheck() {
        int found = 0;
        for (int identifier = 0; identifier < 2048; identifier++) {
            String body = Rows.body(identifier, 0, 0);
            String row = Rows.stuff(body + Rows.check(15, body));
            boolean ends = Rows.endsInFive(row, 0);
            if (ends && found < 4) {
                found++;
                CanBits x = with(identifier, 0, 0);
                Due.is("stuffed of " + identifier, row.length() + 1 + 10, () -> x.stuffed(0));
                x.run(row.length() + 1);
                Due.is("the bit behind the check", row.endsWith("0") ? 1 : 0, () -> x.bit(row.length()));
                Due.is("run", 1, () -> x.run(10));
                Due.is("taken", 1, () -> x.taken(1, CanBits.NONE, 0));
            }
        }
        int rows = found;
        Due.is("rows that end in five equal bits", 4, () -> rows);
    }

    private static void notBehindTheLastOctet() {
        // Code 0001 makes one stuff bit; the octet 11100000 ends in five equal bits and has none behind it.
        CanBits x = with(SHORT_EVEN, 2, 1, 224);
        Due.is("stuffed", 22 + 1 + 8 + 27 + 10, () -> x.stuffed(0));
        x.run(32);
        Due.same("the octet, and the fixed bit", "11100000" + "1", bits(x, 23, 32));
        // COUNT of one stuff bit, not of two.
        x.run(4);
        Due.same("COUNT", "0011", bits(x, 32, 36));
        Due.is("run", 1, () -> x.run(32));
        CanBits long64 = with(LONG_EVEN, 3, 15, repeat(170, 63, 31));
        String row = Rows.row(LONG_EVEN, 3, 15, repeat(170, 63, 31));
        Due.is("stuffed, the octet being 00011111", row.length(), () -> long64.stuffed(0));
        Due.is("run", 1, () -> long64.run(row.length()));
    }

    private static int[] repeat(int b, int times, int last) {
        int[] octets = new int[times + 1];
        java.util.Arrays.fill(octets, b);
        octets[times] = last;
        return octets;
    }

    /** What is sent has seven times 0 at the code's end; a listener may see 1 0 1 0 0000 there. */
    private static void notBehindTheCode() {
        String body = "0" + "10101010101" + "0" + "0" + "1010" + "0000";
        String row = body + Rows.fixed('0', "0000" + Rows.check(17, body + "0000"));
        CanBits x = Feed.seen(row + Rows.TAIL);
        Due.is("errors", 0, () -> x.error(CanBits.NONE, 0));
        Due.is("taken", 1, () -> x.taken(0, CanBits.NONE, 0));
        Due.is("the bit time", row.length() + 8, () -> x.taken(0, 0, 4));
    }

    private static void countWraps() {
        String[] counts = {"0000", "0011", "0110", "0101", "1100", "1111", "1010", "1001"};
        boolean[] seen = new boolean[20];
        for (int zeros = 0; zeros <= 12; zeros++) {
            for (int last = 1; last < 256; last = last * 2 + 1) {
                int[] octets = repeat(170, 11, last);
                java.util.Arrays.fill(octets, 0, Math.min(zeros, 11), 0);
                String stuffed = Rows.stuff(Rows.body(SHORT_EVEN, 2, 9, octets));
                int n = stuffed.length() - (22 + 96);
                if (n < seen.length && !seen[n]) {
                    seen[n] = true;
                    CanBits x = with(SHORT_EVEN, 2, 9, octets);
                    x.run(stuffed.length() + 5);
                    int from = stuffed.length() + 1;
                    Due.same("COUNT of " + n + " stuff bits", counts[n % 8], bits(x, from, from + 4));
                    x.run(40);
                    Due.is("taken with " + n + " stuff bits", 1, () -> x.taken(1, CanBits.NONE, 0));
                }
            }
        }
        for (int n : new int[] {0, 1, 7, 8, 9, 15, 16, 17}) {
            Due.is("a row with " + n + " stuff bits", 1, () -> seen[n] ? 1 : 0);
        }
    }

    private static void countMostOfAll() {
        // Each four bits behind the first five are like the stuff bit before them: 128 stuff bits in the octets.
        int[] octets = repeat(0x87, 63, 0x87);
        String body = Rows.body(0, 3, 15, octets);
        String stuffed = Rows.stuff(body);
        CanBits x = with(0, 3, 15, octets);
        Due.is("stuff bits above 128", 1, () -> stuffed.length() - body.length() > 128 ? 1 : 0);
        Due.is("stuffed", stuffed.length() + 32 + 10, () -> x.stuffed(0));
        Due.is("run", 1, () -> x.run(stuffed.length() + 42));
        Due.is("takenOctet(1, 0, 63)", 0x87, () -> x.takenOctet(1, 0, 63));
    }

    private static void checkWidths() {
        // 12 and 16 octets: 4 + 17 bits and 6 fixed ones; 20 and more: 4 + 21 bits and 7 fixed ones.
        int[] codes = {8, 9, 10, 11, 12, 15};
        int[] octets = {8, 12, 16, 20, 24, 64};
        for (int kind = 2; kind < 4; kind++) {
            int head = kind == 2 ? 22 : 41;
            for (int i = 0; i < codes.length; i++) {
                CanBits x = evenly(kind, codes[i]);
                // Code 1111 and the 1 behind it are five equal bits.
                int body = head + 8 * octets[i] + (codes[i] == 15 ? 1 : 0);
                int rest = octets[i] <= 16 ? 27 : 32;
                Due.is("stuffed of kind " + kind + ", " + octets[i] + " octets", body + rest + 10, () -> x.stuffed(0));
                Due.is("run", 1, () -> x.run(body + rest + 10));
            }
        }
    }

    private static void fixedBits() {
        for (int code : new int[] {10, 11}) {
            CanBits x = evenly(2, code);
            int from = 22 + 8 * Rows.octets(2, code);
            int rest = code == 10 ? 27 : 32;
            x.run(from + rest);
            for (int i = 0; i < rest; i += 5) {
                int at = from + i;
                Due.is("fixed bit at " + i, 1 - x.bit(at - 1), () -> x.bit(at));
            }
            StringBuilder others = new StringBuilder();
            for (int i = 0; i < rest; i++) {
                if (i % 5 != 0) {
                    others.append(x.bit(from + i));
                }
            }
            int width = code == 10 ? 17 : 21;
            String body = bits(x, 0, from);
            Due.same("COUNT and CHECK", "0000" + Rows.check(width, body + "0000"), others.toString());
        }
    }

    private static void tail() {
        for (int kind = 0; kind < 6; kind++) {
            CanBits x = evenly(kind, 2);
            int length = x.stuffed(0);
            x.run(length + 3);
            Due.same("the tail of kind " + kind, "1" + "0" + "1" + "1111111" + "111", bits(x, length - 10, length + 3));
        }
    }

    private static void checkBegins() {
        CanBits x = new CanBits();
        Due.is("of no bits, 15", 0, () -> x.check(0, 0, 0));
        Due.is("of no bits, 17", 1 << 16, () -> x.check(1, 0, 0));
        Due.is("of no bits, 21", 1 << 20, () -> x.check(2, 0, 0));
    }

    private static void highestBitGoes() {
        CanBits x = new CanBits();
        x.run(1);
        Due.is("15 behind a 1", 17817, () -> x.check(0, 0, 1));
        x.run(1);
        // 17817 is 100010110011001 in 15 bits: its highest bit goes, is like the bit, and nothing is turned.
        Due.is("15 behind 1 1", 17817 * 2 - 32768, () -> x.check(0, 0, 2));
        Due.is("17 behind a 1: only its highest bit, which goes", 0, () -> x.check(1, 0, 1));
        Due.is("17 behind 1 1", 92251, () -> x.check(1, 0, 2));
        Due.is("21 behind a 1: only its highest bit, which goes", 0, () -> x.check(2, 0, 1));
        Due.is("21 behind 1 1", 1058969, () -> x.check(2, 0, 2));
        x.run(1);
        Due.is("17 behind 1 1 1", 92251 * 2 - 131072, () -> x.check(1, 0, 3));
        Due.is("21 behind 1 1 1", 1058969 * 2 - 2097152, () -> x.check(2, 0, 3));
        x.run(19997);
        for (int kind = 0; kind < 3; kind++) {
            int of = kind;
            int width = new int[] {15, 17, 21}[kind];
            Due.is("of 20000 bits, " + width, Integer.parseInt(Rows.check(width, "1".repeat(20000)), 2),
                    () -> x.check(of, 0, 20000));
        }
    }

    public static void main(String[] args) {
        Due.sentence("At each bit time, numbered from 0 on", FrameEdgesTest::numberedFromZero);
        Due.sentence("the BUS is 0 if one of them puts 0, otherwise 1 (no nodes)", FrameEdgesTest::busOfNone);
        Due.sentence("the BUS is 0 if one of them puts 0, otherwise 1 (32 nodes)", FrameEdgesTest::busOfMany);
        Due.sentence("A node SEES the bus, turned if a FLIP is planted for it at that time", FrameEdgesTest::flipsTurn);
        Due.sentence("a LENGTH code 0 .. 15", FrameEdgesTest::codes);
        Due.sentence("Kinds: 0 SHORT, .. 5 LONG REMOTE", FrameEdgesTest::kinds);
        Due.sentence("Identifiers have 11 bits, of LONG ones 29", FrameEdgesTest::identifiers);
        Due.sentence("OCTETS: as many as the code, of 0, 1 at most 8", FrameEdgesTest::octetsOfClassic);
        Due.sentence("of 2, 3 for codes from 9 on 12, 16, 20, 24, 32, 48, 64", FrameEdgesTest::octetsOfFlexible);
        Due.sentence("of 4, 5 none", FrameEdgesTest::octetsOfRemote);
        Due.sentence("All are 0 at first", FrameEdgesTest::zeroAtFirst);
        Due.sentence("PLAIN BITS of a frame, the highest bit of each number first", FrameEdgesTest::plainBits);
        Due.sentence("behind five equal bits in a row comes a STUFF BIT", FrameEdgesTest::fiveEqualBits);
        Due.sentence("(stuff bits count)", FrameEdgesTest::stuffBitsCount);
        Due.sentence("to the end of the check (also behind its last bit)", FrameEdgesTest::behindTheCheck);
        Due.sentence("of 2, 3 up to the last octet's end, not behind it", FrameEdgesTest::notBehindTheLastOctet);
        Due.sentence("(the code's, without octets), not behind it", FrameEdgesTest::notBehindTheCode);
        Due.sentence("how many stuff bits there were modulo 8", FrameEdgesTest::countWraps);
        Due.sentence("how many stuff bits there were modulo 8 (the most)", FrameEdgesTest::countMostOfAll);
        Due.sentence("17 bits (up to 16 octets) or 21", FrameEdgesTest::checkWidths);
        Due.sentence("before each fourth one from there on stands a FIXED BIT", FrameEdgesTest::fixedBits);
        Due.sentence("All go on: 1, 1, 1, seven times 1", FrameEdgesTest::tail);
        Due.sentence("at first 0, or (17, 21) its highest bit alone", FrameEdgesTest::checkBegins);
        Due.sentence("it is moved up by one, what was its highest bit goes", FrameEdgesTest::highestBitGoes);
        Due.end();
    }
}
