/** Promise 12: state. */
public final class StateTest {
    private static final Class<?> INDEX = IndexOutOfBoundsException.class;

    private static void states(String name, CanBits x, int node, int... runs) {
        for (int i = 0; i < runs.length; i += 2) {
            for (int k = 0; k < runs[i + 1]; k++) {
                int at = x.time();
                int want = runs[i];
                Due.is(name + ", state(" + node + ") at " + at, want, () -> x.state(node));
                x.run(1);
            }
        }
    }

    private static CanBits bus(int nodes) {
        CanBits x = new CanBits();
        x.nodes(nodes);
        return x;
    }

    private static void wrongNodes() {
        CanBits x = bus(2);
        Due.fails("state(2)", INDEX, () -> x.state(2));
        Due.fails("state(-1)", INDEX, () -> x.state(-1));
        Due.fails("state(most)", INDEX, () -> x.state(Integer.MAX_VALUE));
    }

    private static void sentWell() {
        int length = Rows.row(5, 0, 1).length();
        CanBits x = bus(2);
        x.send(0, 5, 0, 1);
        states("a sender", x, 0, 0, 1, 1, length - 1, 6, 3, 0, 5);
        CanBits y = bus(2);
        y.send(0, 5, 0, 1);
        states("a listener", y, 1, 0, 1, 2, length - 1, 6, 3, 0, 5);
        CanBits z = bus(2);
        z.send(0, 5, 0, 1);
        z.send(0, 6, 0, 1);
        int next = Rows.row(6, 0, 1).length();
        states("a sender of two", z, 0, 0, 1, 1, length - 1, 6, 3, 0, 1, 1, next - 1, 6, 3, 0, 5);
    }

    private static void unacknowledged() {
        int length = Rows.row(5, 0, 1).length();
        CanBits x = bus(1);
        x.send(0, 5, 0, 1);
        states("a lone sender", x, 0, 0, 1, 1, length - 9, 3, 6, 4, 1, 5, 7, 6, 3, 0, 1, 1, length - 9, 3, 6);
    }

    private static void arbitrationLost() {
        // 1364 and 1365 differ in the last bit of the identifier, plain bit 11; there are no stuff bits so far.
        CanBits x = bus(2);
        x.send(0, 1365, 0, 0);
        x.send(1, 1364, 0, 0);
        int length = Rows.row(1364, 0, 0).length();
        states("a loser", x, 0, 0, 1, 1, 11, 2, length - 12, 6, 3, 0, 1, 1, 10);
    }

    private static void longerWaiting() {
        // Six bits of the other node's flag begin where this one's end.
        CanBits x = bus(2);
        x.flip(0, 0);
        x.flip(0, 1);
        x.flip(0, 2);
        x.flip(0, 3);
        x.flip(0, 4);
        x.flip(0, 5);
        // Node 0 sees six times 0 and flags at 6 to 11; node 1 has its stuff error at 11, and flags at 12 to 17.
        states("the first to flag", x, 0, 0, 1, 2, 5, 3, 6, 4, 7, 5, 7, 6, 3, 0, 4);
        CanBits y = bus(2);
        for (int i = 0; i < 6; i++) {
            y.flip(0, i);
        }
        states("the second to flag", y, 1, 0, 7, 2, 5, 3, 6, 4, 1, 5, 7, 6, 3, 0, 4);
    }

    private static void clearing() {
        for (int k = 1; k <= 7; k++) {
            CanBits x = bus(1);
            for (int i = 0; i < 6; i++) {
                x.flip(0, i);
            }
            x.flip(0, 12 + k);
            states("0 at " + k + " of clearing", x, 0, 0, 1, 2, 5, 3, 6, 4, 1, 5, k, 3, 6, 4, 1, 5, 7, 6, 3, 0, 2);
            int kind = k == 7 ? 5 : 2;
            int at = 12 + k;
            Due.is("error(1, 0) at " + k + " of clearing", kind, () -> x.error(1, 0));
            Due.is("error(1, 2) at " + k + " of clearing", at, () -> x.error(1, 2));
        }
    }

    private static void pausing() {
        // Flags from 6 on, waits at 12, clears from 13 on, pauses at 20, 21, 22.
        for (int k = 0; k < 3; k++) {
            CanBits x = bus(1);
            for (int i = 0; i < 6; i++) {
                x.flip(0, i);
            }
            int at = 20 + k;
            x.flip(0, at);
            if (k < 2) {
                states("0 at " + k + " of the pause", x, 0, 0, 1, 2, 5, 3, 6, 4, 1, 5, 7, 6, k + 1, 3, 6, 4, 1, 5, 7);
                Due.is("error(1, 0)", 5, () -> x.error(1, 0));
                Due.is("error(1, 2)", at, () -> x.error(1, 2));
            } else {
                // That 0 is the first bit; behind five times 1 the sixth is a stuff error.
                states("0 at the pause's end", x, 0, 0, 1, 2, 5, 3, 6, 4, 1, 5, 7, 6, 3, 2, 6, 3, 6);
                Due.is("error(1, 0)", 1, () -> x.error(1, 0));
            }
        }
    }

    /** A 0 at the third bit of the pause counts as the first bit of the node's own frame. */
    private static void pausingWithFrames() {
        CanBits x = bus(2);
        x.send(0, 5, 0, 0);
        x.send(0, 6, 0, 0);
        int first = Rows.row(5, 0, 0).length();
        int second = Rows.row(6, 0, 0).length();
        x.flip(0, first + 2);
        x.flip(1, first + 2);
        Due.is("run", 2, () -> x.run(first + 2 + second));
        Due.is("done(1, 1)", first + 2 + second - 1, () -> x.done(1, 1));
        Due.is("bit at the pause's end", 1, () -> x.bit(first + 2));
        Due.is("taken(1, 1, 0)", 6, () -> x.taken(1, 1, 0));
        Due.is("errors", 0, () -> x.error(CanBits.NONE, 0));
    }

    public static void main(String[] args) {
        wrongNodes();
        sentWell();
        unacknowledged();
        arbitrationLost();
        longerWaiting();
        clearing();
        pausing();
        pausingWithFrames();
        Due.end();
    }
}
