/** Promise 3: send, and which of a node's frames is the first. */
public final class SendTest {
    private static final Class<?> ARGUMENT = IllegalArgumentException.class;
    private static final Class<?> INDEX = IndexOutOfBoundsException.class;
    private static final Class<?> STATE = IllegalStateException.class;

    private static void refuses() {
        CanBits x = new CanBits();
        Due.fails("send(-1, ..)", INDEX, () -> x.send(-1, 0, 0, 0));
        Due.fails("send(2, ..)", INDEX, () -> x.send(2, 0, 0, 0));
        Due.fails("a wrong node and all else wrong", INDEX, () -> x.send(2, -1, 6, 16));
        Due.fails("kind -1", ARGUMENT, () -> x.send(0, 0, -1, 0));
        Due.fails("kind 6", ARGUMENT, () -> x.send(0, 0, 6, 0));
        Due.fails("length -1", ARGUMENT, () -> x.send(0, 0, 0, -1));
        Due.fails("length 16", ARGUMENT, () -> x.send(0, 0, 0, 16));
        for (int k = 0; k < 6; k++) {
            int kind = k;
            int over = k % 2 == 0 ? 2048 : 536870912;
            Due.fails("identifier -1 of kind " + kind, ARGUMENT, () -> x.send(0, -1, kind, 0));
            Due.fails("identifier " + over + " of kind " + kind, ARGUMENT, () -> x.send(0, over, kind, 0));
            Due.fails("the least identifier", ARGUMENT, () -> x.send(0, Integer.MIN_VALUE, kind, 0));
            Due.fails("the most identifier", ARGUMENT, () -> x.send(0, Integer.MAX_VALUE, kind, 0));
        }
        Due.is("waiting(0) behind refusals", 0, () -> x.waiting(0));
        for (int k = 0; k < 6; k++) {
            int kind = k;
            int last = k % 2 == 0 ? 2047 : 536870911;
            Due.is("identifier " + last + " of kind " + kind, kind, () -> x.send(0, last, kind, 15));
        }
        Due.is("waiting(0)", 6, () -> x.waiting(0));
    }

    private static void twoHundred() {
        CanBits x = new CanBits();
        for (int i = 0; i < 199; i++) {
            int number = i;
            Due.is("send " + number, number, () -> x.send(number % 2, 2047 - number, 0, 0));
        }
        x.run(60);
        Due.is("send 199, one being done", 199, () -> x.send(1, 1, 0, 0));
        Due.fails("send 200", STATE, () -> x.send(0, 1, 0, 0));
        Due.fails("a wrong kind then", ARGUMENT, () -> x.send(0, 1, 6, 0));
        Due.fails("a wrong node then", INDEX, () -> x.send(2, 1, 0, 0));
        Due.is("waiting(0), one being done", 99, () -> x.waiting(0));
        Due.is("waiting(1)", 100, () -> x.waiting(1));
        x.nodes(2);
        Due.is("send behind nodes", 0, () -> x.send(0, 1, 0, 0));
    }

    private static void sendsInOrder(String name, int[] order, int[]... frames) {
        CanBits x = new CanBits();
        for (int[] frame : frames) {
            int number = x.send(0, frame[0], frame[1], frame[2]);
            for (int i = 3; i < frame.length; i++) {
                x.octet(number, i - 3, frame[i]);
            }
        }
        Due.is(name + ", run(6000)", order.length, () -> x.run(6000));
        for (int i = 0; i < order.length; i++) {
            int at = i;
            Due.is(name + ", done(" + at + ", 0)", order[at], () -> x.done(at, 0));
        }
    }

    private static int[] f(int... frame) {
        return frame;
    }

    private static void firsts() {
        sendsInOrder("lower identifiers", new int[] {2, 1, 0}, f(7, 0, 0), f(6, 0, 0), f(5, 0, 0));
        sendsInOrder("equal ones", new int[] {0, 1, 2}, f(7, 0, 1, 9), f(7, 0, 1, 9), f(7, 0, 1, 9));
        // 12: remote; 13: long; 14: flexible.
        sendsInOrder("kinds", new int[] {5, 3, 4, 1, 2, 0}, f(5 << 18, 5, 0), f(5 << 18, 1, 0), f(5 << 18, 3, 0),
                f(5, 2, 0), f(5, 4, 0), f(5, 0, 0));
        sendsInOrder("codes", new int[] {2, 1, 0}, f(5, 0, 3), f(5, 0, 2), f(5, 0, 1, 255));
        sendsInOrder("codes of remote ones", new int[] {1, 0}, f(5, 4, 9), f(5, 4, 8));
        sendsInOrder("octets", new int[] {2, 1, 0}, f(5, 2, 2, 1, 1), f(5, 2, 2, 1, 0), f(5, 2, 2, 0, 255));
        sendsInOrder("high octets", new int[] {1, 0}, f(5, 2, 1, 128), f(5, 2, 1, 127));
        sendsInOrder("long identifiers", new int[] {1, 2, 0}, f(1 << 28, 1, 0), f(1, 1, 0), f(1, 5, 0));
    }

    /** A frame made while another is sent waits, and an octet that changes can change which is the first. */
    private static void changesOfFirst() {
        CanBits x = new CanBits();
        x.send(0, 100, 0, 0);
        x.run(5);
        x.send(0, 1, 0, 0);
        x.send(0, 2, 0, 1);
        x.send(0, 2, 0, 1);
        x.octet(2, 0, 200);
        x.octet(3, 0, 201);
        x.run(50);
        x.octet(3, 0, 199);
        Due.is("run(300)", 3, () -> x.run(300));
        int[] order = {0, 1, 3, 2};
        for (int i = 0; i < 4; i++) {
            int at = i;
            Due.is("done(" + at + ", 0)", order[at], () -> x.done(at, 0));
        }
    }

    public static void main(String[] args) {
        refuses();
        twoHundred();
        firsts();
        changesOfFirst();
        Due.end();
    }
}
