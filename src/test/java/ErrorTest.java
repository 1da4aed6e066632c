/** Promise 17: error, and where each kind of error is seen. */
public final class ErrorTest {
    private static final Class<?> ARGUMENT = IllegalArgumentException.class;
    private static final Class<?> INDEX = IndexOutOfBoundsException.class;

    private static void errorIs(String name, CanBits x, int i, int kind, int node, int time) {
        Due.is(name + ", error(" + i + ", 0)", kind, () -> x.error(i, 0));
        Due.is(name + ", error(" + i + ", 1)", node, () -> x.error(i, 1));
        Due.is(name + ", error(" + i + ", 2)", time, () -> x.error(i, 2));
    }

    /** A lone node that sees the text: its last bit, and no bit before, is this error. */
    private static void lastBitIs(String name, String text, int kind) {
        CanBits x = Feed.seen(text);
        Due.is(name + ", errors", 1, () -> x.error(CanBits.NONE, 0));
        errorIs(name, x, 0, kind, 0, text.length() - 1);
        Due.is(name + ", state", 3, () -> x.state(0));
        Due.is(name + ", taken", kind == 5 ? 1 : 0, () -> x.taken(0, CanBits.NONE, 0));
    }

    private static void refuses() {
        CanBits x = new CanBits();
        x.nodes(1);
        Due.fails("error(0, 0) of none", INDEX, () -> x.error(0, 0));
        x.send(0, 5, 0, 0);
        int length = x.stuffed(0);
        x.run(2 * length + 1);
        Due.is("error(NONE, 0)", 2, () -> x.error(CanBits.NONE, 0));
        errorIs("a lone sender", x, 0, 4, 0, length - 9);
        errorIs("a lone sender", x, 1, 4, 0, 2 * length);
        Due.fails("error(2, 0)", INDEX, () -> x.error(2, 0));
        Due.fails("error(2, 3)", INDEX, () -> x.error(2, 3));
        Due.fails("error(0, 3)", ARGUMENT, () -> x.error(0, 3));
        Due.fails("error(0, -1)", ARGUMENT, () -> x.error(0, -1));
        Due.fails("error(NONE, 1)", INDEX, () -> x.error(CanBits.NONE, 1));
        Due.fails("error(-2, 0)", INDEX, () -> x.error(-2, 0));
    }

    /** A flip at each bit of a sender's row in turn. */
    private static void bitErrors() {
        for (int kind = 0; kind < 6; kind++) {
            int identifier = kind % 2 == 0 ? 31 : 31 << 18 | 0x3FE0;
            String row = Rows.row(identifier, kind, 1, 255);
            String plain = Rows.plain(identifier, kind, 1, 255);
            int plainAt = 0;
            for (int i = 0; i < row.length(); i++) {
                boolean isStuff = Rows.endsInFive(row.substring(0, i), 0);
                boolean arbitrates = !isStuff && plainAt <= (kind % 2 == 0 ? 13 : 32);
                if (!isStuff && plainAt < plain.length()) {
                    plainAt++;
                }
                CanBits x = new CanBits();
                x.send(0, identifier, kind, 1);
                if (kind < 4) {
                    x.octet(0, 0, 255);
                }
                x.flip(0, i);
                x.run(i + 1);
                String name = "kind " + kind + " with bit " + i + " turned";
                if (arbitrates && row.charAt(i) == '1') {
                    Due.is(name + ", errors", 0, () -> x.error(CanBits.NONE, 0));
                    Due.is(name + ", state(0)", 2, () -> x.state(0));
                } else {
                    Due.is(name + ", errors", 1, () -> x.error(CanBits.NONE, 0));
                    errorIs(name, x, 0, i == row.length() - 9 ? 4 : 0, 0, i);
                    Due.is(name + ", state(0)", 3, () -> x.state(0));
                }
                Due.is(name + ", waiting(0)", 1, () -> x.waiting(0));
            }
        }
    }

    private static void stuffErrors() {
        lastBitIs("six times 0", "000000", 1);
        lastBitIs("0, then six times 1", "0111111", 1);
        lastBitIs("a stuff bit, then five like it", "0000011111" + "1", 1);
        // The octet is five times 0, a stuff bit, and three times 0.
        lastBitIs("in the check", Rows.stuff(Rows.body(1365, 0, 1, 0)) + "000", 1);
        String body = Rows.body(identifierWhoseCheckEndsInFive(), 0, 0);
        String row = Rows.classic(body);
        lastBitIs("behind the check", Feed.turned(row, row.length() - 1), 1);
        String flexible = Rows.stuff(Rows.body(1365, 2, 1, 170));
        String whole = Rows.row(1365, 2, 1, 170);
        for (int at = flexible.length(); at < whole.length() - 10; at += 5) {
            lastBitIs("a fixed bit", Feed.turned(whole, at).substring(0, at + 1), 1);
        }
        String five = Rows.row(1365, 2, 1, 224);
        int end = Rows.stuff(Rows.body(1365, 2, 1, 224)).length();
        lastBitIs("a fixed bit behind five equal ones", Feed.turned(five, end).substring(0, end + 1), 1);
        for (int k = 1; k <= 4; k++) {
            lastBitIs("a count", Feed.turned(whole, flexible.length() + k).substring(0, flexible.length() + 5), 1);
        }
        // 1365's row has one stuff bit, in the code.
        for (int n = 2; n <= 8; n++) {
            lastBitIs("another count", flexible + Rows.fixed('0', Rows.count(n)), 1);
        }
    }

    private static int identifierWhoseCheckEndsInFive() {
        for (int identifier = 0; identifier < 2048; identifier++) {
            String body = Rows.body(identifier, 0, 0);
            if (Rows.endsInFive(Rows.stuff(body + Rows.check(15, body)), 0)) {
                return identifier;
            }
        }
        return 0;
    }

    private static void formErrors() {
        for (int kind = 2; kind < 4; kind++) {
            int identifier = kind == 2 ? 1365 : 1365 << 18 | 0x15555;
            String head = Feed.turned(Rows.head(identifier, kind, 0), kind == 2 ? 15 : 34);
            lastBitIs("a reserved bit", Rows.stuff(head.substring(0, kind == 2 ? 16 : 35)), 2);
        }
        for (int kind = 0; kind < 6; kind++) {
            int identifier = kind % 2 == 0 ? 1365 : 1365 << 18 | 0x15555;
            String row = Rows.row(identifier, kind, 10, 1, 2, 3);
            int tail = row.length() - 10;
            for (int k = 0; k < 9; k++) {
                if (k != 1) {
                    lastBitIs("0 at " + k + " of the tail", row.substring(0, tail + k) + "0", 2);
                }
            }
            lastBitIs("0 at the last END", row.substring(0, tail + 9) + "0", 5);
            // Whatever a listener sees at the acknowledge is fine.
            CanBits x = Feed.seen(Feed.with(row, tail + 1, '0'));
            Due.is("0 at the acknowledge", 0, () -> x.error(CanBits.NONE, 0));
            Due.is("0 at the acknowledge, taken", 1, () -> x.taken(0, CanBits.NONE, 0));
        }
    }

    private static void checkErrors() {
        for (int kind = 0; kind < 6; kind++) {
            int identifier = kind % 2 == 0 ? 1365 : 1365 << 18 | 0x15555;
            for (int code : new int[] {2, 10, 11, 15}) {
                String body = Rows.body(identifier, kind, code, 255, 3);
                int count = Rows.octets(kind, code);
                String row = Rows.row(identifier, kind, code, 255, 3);
                for (int turn = 0; turn < 3; turn++) {
                    wrongCheck(kind, body, count, row, turn);
                }
            }
        }
    }

    /** A row whose check has one bit turned, all else being right. */
    private static void wrongCheck(int kind, String body, int count, String row, int turn) {
        String wrong;
        if (Rows.isFlexible(kind)) {
            String stuffed = Rows.stuff(body);
            String number = Rows.count(stuffed.length() - body.length());
            String check = Rows.check(count <= 16 ? 17 : 21, stuffed + number);
            check = Feed.turned(check, turn == 0 ? 0 : check.length() - turn);
            wrong = stuffed + Rows.fixed(stuffed.charAt(stuffed.length() - 1), number + check);
        } else {
            String check = Rows.check(15, body);
            wrong = Rows.stuff(body + Feed.turned(check, turn == 0 ? 0 : check.length() - turn));
            if (Rows.endsInFive(wrong, 0)) {
                wrong += Rows.other(wrong.charAt(wrong.length() - 1));
            }
        }
        lastBitIs("a wrong check", wrong + "111", 3);
        lastBitIs("a wrong check and 0 behind it", wrong + "110", 2);
        String text = wrong;
        CanBits x = Feed.seen(text + "11");
        Due.is("a wrong check is not acknowledged", 1, () -> x.bit(text.length() + 1));
        CanBits y = Feed.seen(row.substring(0, row.length() - 8));
        Due.is("a right check is acknowledged", 0, () -> y.bit(row.length() - 9));
    }

    /** Errors of one bit time come by nodes; a flag makes the others see errors. */
    private static void order() {
        CanBits x = new CanBits();
        x.nodes(4);
        x.send(2, 1365, 0, 1);
        x.octet(0, 0, 170);
        int length = x.stuffed(0);
        x.flip(3, length - 4);
        x.run(length);
        // Node 3 saw 0 at an END; at the next the others see the 0 that it puts.
        Due.is("errors", 4, () -> x.error(CanBits.NONE, 0));
        errorIs("the first", x, 0, 2, 3, length - 4);
        errorIs("a listener", x, 1, 2, 0, length - 3);
        errorIs("another listener", x, 2, 2, 1, length - 3);
        errorIs("the sender", x, 3, 0, 2, length - 3);
        x.run(100);
        Due.is("done", 1, () -> x.done(CanBits.NONE, 0));
        Due.is("errors", 4, () -> x.error(CanBits.NONE, 0));
    }

    /** A node that sees a 0 at its last END flags; the others have an overload in their pause. */
    private static void overloads() {
        CanBits x = new CanBits();
        x.nodes(3);
        x.send(0, 1365, 0, 1);
        int length = x.stuffed(0);
        x.flip(2, length - 1);
        x.run(length + 40);
        Due.is("errors", 3, () -> x.error(CanBits.NONE, 0));
        errorIs("the one that saw 0", x, 0, 5, 2, length - 1);
        errorIs("the sender", x, 1, 5, 0, length);
        errorIs("the other listener", x, 2, 5, 1, length);
        Due.is("done", 1, () -> x.done(CanBits.NONE, 0));
        Due.is("taken(2, NONE, 0)", 1, () -> x.taken(2, CanBits.NONE, 0));
    }

    /** Kinds that differ behind the arbitration: a bit error, though the bit is a 0 on a 1. */
    private static void behindTheArbitration() {
        CanBits x = new CanBits();
        x.nodes(3);
        x.send(0, 1365, 2, 0);
        x.send(1, 1365, 0, 0);
        x.run(15);
        Due.is("errors", 1, () -> x.error(CanBits.NONE, 0));
        errorIs("the flexible one", x, 0, 0, 0, 14);
        Due.is("state(1)", 1, () -> x.state(1));
    }

    /** Very many errors without a single flip: senders that differ behind the arbitration, again and again. */
    private static void veryMany() {
        CanBits x = new CanBits();
        x.nodes(32);
        for (int i = 0; i < 32; i++) {
            x.send(i, 1365, 2, 1);
            x.octet(i, 0, 7 * i);
        }
        x.run(20000);
        int count = x.error(CanBits.NONE, 0);
        Due.is("more than ten thousand errors", 1, () -> count > 10000 ? 1 : 0);
        int before = -1;
        for (int i = 0; i < count; i++) {
            int at = x.error(i, 2) * 32 + x.error(i, 1);
            if (at <= before) {
                Due.same("errors by bit times, then nodes", "in order", "error " + i + " is not");
            }
            before = at;
        }
    }

    public static void main(String[] args) {
        refuses();
        bitErrors();
        stuffErrors();
        formErrors();
        checkErrors();
        order();
        overloads();
        behindTheArbitration();
        veryMany();
        Due.end();
    }
}
