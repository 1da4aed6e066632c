/** Promises 15 and 16: taken and takenOctet, and what a listener makes of the bits that it sees. */
public final class TakenTest {
    private static final Class<?> ARGUMENT = IllegalArgumentException.class;
    private static final Class<?> INDEX = IndexOutOfBoundsException.class;

    private static void refuses() {
        CanBits x = new CanBits();
        Due.fails("taken(0, 0, 0) of none", INDEX, () -> x.taken(0, 0, 0));
        Due.fails("taken(0, 0, 9) of none", INDEX, () -> x.taken(0, 0, 9));
        Due.fails("takenOctet(0, 0, 0) of none", INDEX, () -> x.takenOctet(0, 0, 0));
        x.send(0, 291, 0, 2);
        x.octet(0, 0, 165);
        x.octet(0, 1, 90);
        x.run(59);
        Due.is("taken(1, NONE, 0) before the sixth END", 0, () -> x.taken(1, CanBits.NONE, 0));
        x.run(1);
        Due.is("taken(1, NONE, 0)", 1, () -> x.taken(1, CanBits.NONE, 0));
        int[] want = {291, 0, 2, 2, 59};
        for (int i = 0; i < 5; i++) {
            int what = i;
            Due.is("taken(1, 0, " + what + ")", want[what], () -> x.taken(1, 0, what));
        }
        Due.fails("taken(1, 0, 5)", ARGUMENT, () -> x.taken(1, 0, 5));
        Due.fails("taken(1, 0, -1)", ARGUMENT, () -> x.taken(1, 0, -1));
        Due.fails("taken(1, 1, 0)", INDEX, () -> x.taken(1, 1, 0));
        Due.fails("taken(1, 1, 5)", INDEX, () -> x.taken(1, 1, 5));
        Due.fails("taken(1, NONE, 1)", INDEX, () -> x.taken(1, CanBits.NONE, 1));
        Due.fails("taken(1, -2, 0)", INDEX, () -> x.taken(1, -2, 0));
        Due.fails("taken(2, NONE, 0)", INDEX, () -> x.taken(2, CanBits.NONE, 0));
        Due.fails("taken(-1, 0, 9)", INDEX, () -> x.taken(-1, 0, 9));
        Due.is("taken(0, NONE, 0): not its own", 0, () -> x.taken(0, CanBits.NONE, 0));
        Due.is("takenOctet(1, 0, 0)", 165, () -> x.takenOctet(1, 0, 0));
        Due.is("takenOctet(1, 0, 1)", 90, () -> x.takenOctet(1, 0, 1));
        Due.fails("takenOctet(1, 0, 2)", INDEX, () -> x.takenOctet(1, 0, 2));
        Due.fails("takenOctet(1, 0, -1)", INDEX, () -> x.takenOctet(1, 0, -1));
        Due.fails("takenOctet(1, NONE, 0)", INDEX, () -> x.takenOctet(1, CanBits.NONE, 0));
        Due.fails("takenOctet(1, 1, 0)", INDEX, () -> x.takenOctet(1, 1, 0));
        Due.fails("takenOctet(2, 0, 0)", INDEX, () -> x.takenOctet(2, 0, 0));
        Due.fails("takenOctet(1, most, most)", INDEX, () -> x.takenOctet(1, Integer.MAX_VALUE, Integer.MAX_VALUE));
    }

    private static void allKinds() {
        for (int kind = 0; kind < 6; kind++) {
            for (int code = 0; code < 16; code++) {
                int identifier = kind % 2 == 0 ? 1234 : 123456789;
                int count = Rows.octets(kind, code);
                CanBits x = new CanBits();
                x.nodes(3);
                x.send(1, identifier, kind, code);
                for (int i = 0; i < count; i++) {
                    x.octet(0, i, 37 * i + 200 & 255);
                }
                int length = x.stuffed(0);
                x.run(800);
                for (int node = 0; node < 3; node += 2) {
                    takenIs("sent", x, node, 0, new int[] {identifier, kind, code, count, length - 2});
                    for (int i = 0; i < count; i++) {
                        int to = node;
                        int k = i;
                        Due.is("octet " + k + " of kind " + kind, 37 * k + 200 & 255, () -> x.takenOctet(to, 0, k));
                    }
                }
            }
        }
    }

    private static void takenIs(String name, CanBits x, int node, int i, int[] want) {
        for (int k = 0; k < want.length; k++) {
            int what = k;
            Due.is(name + ", taken(" + node + ", " + i + ", " + what + ")", want[what], () -> x.taken(node, i, what));
        }
    }

    /** Bits that are fixed in a frame, but that a listener takes as they come. */
    private static void asTheyCome() {
        int[][] free = {{}, {12, 34}, {12, 16, 17}, {12, 32, 35, 36}, {}, {12, 34}};
        for (int kind = 0; kind < 6; kind++) {
            for (int at : free[kind]) {
                int identifier = kind % 2 == 0 ? 1365 : 1365 << 18 | 0x15555;
                int count = Rows.octets(kind, 9);
                String body = Feed.turned(Rows.body(identifier, kind, 9, 170, 170), at);
                String row = Rows.isFlexible(kind) ? Rows.flexible(body, count) : Rows.classic(body);
                CanBits x = Feed.seen(row + Rows.TAIL);
                String name = "kind " + kind + " with bit " + at + " turned";
                Due.is(name + ", errors", 0, () -> x.error(CanBits.NONE, 0));
                takenIs(name, x, 0, 0, new int[] {identifier, kind, 9, count, row.length() + 8});
                Due.is(name + ", the acknowledge", 0, () -> x.bit(row.length() + 1));
                Due.is(name + ", state", 6, () -> x.state(0));
            }
        }
    }

    /** A loser of the arbitration has heard all from the first bit on, whatever kind wins. */
    private static void losersTake() {
        int[][] winners = {{1365, 0}, {1365, 4}, {1365 << 18 | 5, 1}, {1365 << 18 | 5, 5}, {1365, 2},
            {1365 << 18 | 5, 3}};
        int[][] losers = {{1365, 4}, {1365 << 18, 1}, {1365 << 18 | 6, 1}, {1365 << 18 | 6, 1}, {1365, 4},
            {1365 << 18 | 5, 5}};
        for (int i = 0; i < winners.length; i++) {
            CanBits x = new CanBits();
            x.send(0, losers[i][0], losers[i][1], 1);
            x.send(1, winners[i][0], winners[i][1], 3);
            x.run(x.stuffed(1));
            String name = "winner " + i;
            Due.is(name + ", errors", 0, () -> x.error(CanBits.NONE, 0));
            takenIs(name, x, 0, 0, new int[] {winners[i][0], winners[i][1], 3, winners[i][1] > 3 ? 0 : 3});
            Due.is(name + ", waiting(0)", 1, () -> x.waiting(0));
        }
    }

    /** The most that senders alone can give a node to take: the shortest frames, a whole pause between them. */
    private static void most() {
        CanBits x = new CanBits();
        for (int i = 0; i < 200; i++) {
            x.send(0, 1300, 4, 3);
        }
        int length = x.stuffed(0);
        Due.is("run(20000)", 200, () -> x.run(20000));
        Due.is("taken(1, NONE, 0)", 200, () -> x.taken(1, CanBits.NONE, 0));
        Due.is("taken(1, 199, 4)", 199 * (length + 3) + length - 2, () -> x.taken(1, 199, 4));
    }

    public static void main(String[] args) {
        refuses();
        allKinds();
        asTheyCome();
        losersTake();
        most();
        Due.end();
    }
}
