/** Promise 2: nodes. */
public final class NodesTest {
    private static void refuses(CanBits x) {
        Due.stops("nodes(33)", IllegalArgumentException.class, () -> x.nodes(33));
        Due.stops("nodes(most)", IllegalArgumentException.class, () -> x.nodes(Integer.MAX_VALUE));
        Due.stops("nodes(-1)", NegativeArraySizeException.class, () -> x.nodes(-1));
        Due.stops("nodes(least)", NegativeArraySizeException.class, () -> x.nodes(Integer.MIN_VALUE));
    }

    private static void counts(CanBits x) {
        for (int n : new int[] {0, 1, 2, 31, 32}) {
            Due.goes("nodes(" + n + ")", () -> x.nodes(n));
            for (int i = 0; i < n; i++) {
                int node = i;
                Due.is("state(" + node + ") of " + n, 0, () -> x.state(node));
            }
            Due.fails("state(" + n + ") of " + n, IndexOutOfBoundsException.class, () -> x.state(n));
            Due.fails("state(-1) of " + n, IndexOutOfBoundsException.class, () -> x.state(-1));
        }
    }

    private static void noNodes(CanBits x) {
        x.nodes(0);
        Due.is("run(3) without nodes", 0, () -> x.run(3));
        Due.is("bit(0) without nodes", 1, () -> x.bit(0));
        Due.is("bit(2) without nodes", 1, () -> x.bit(2));
        Due.fails("send without nodes", IndexOutOfBoundsException.class, () -> x.send(0, 0, 0, 0));
    }

    /** All that a bus can hold is gone behind nodes. */
    private static void beginsAnew(CanBits x) {
        x.nodes(3);
        x.send(0, 5, 0, 1);
        x.octet(0, 0, 255);
        x.send(0, 6, 0, 1);
        x.filter(1, 7, 6);
        x.filter(2, 1, 1);
        x.flip(2, 0);
        x.flip(2, 20);
        x.flip(1, 150);
        x.flip(0, 19999);
        x.run(130);
        Due.is("errors before", 1, () -> x.error(CanBits.NONE, 0) > 0 ? 1 : 0);
        refuses(x);
        Due.is("time() behind refused nodes", 130, x::time);
        Due.fails("state(3)", IndexOutOfBoundsException.class, () -> x.state(3));
        Due.is("send(0, 7, 0, 0) behind refused nodes", 2, () -> x.send(0, 7, 0, 0));

        x.nodes(3);
        Due.is("time()", 0, x::time);
        Due.fails("bit(0)", ArrayIndexOutOfBoundsException.class, () -> x.bit(0));
        Due.fails("stuffed(0)", IndexOutOfBoundsException.class, () -> x.stuffed(0));
        Due.is("done(NONE, 0)", 0, () -> x.done(CanBits.NONE, 0));
        Due.is("error(NONE, 0)", 0, () -> x.error(CanBits.NONE, 0));
        for (int i = 0; i < 3; i++) {
            int node = i;
            Due.is("state(" + node + ")", 0, () -> x.state(node));
            Due.is("waiting(" + node + ")", 0, () -> x.waiting(node));
            Due.is("taken(" + node + ", NONE, 0)", 0, () -> x.taken(node, CanBits.NONE, 0));
        }
        for (int i = 0; i < 3; i++) {
            int node = i;
            Due.fails("taken(" + node + ", 0, 0)", IndexOutOfBoundsException.class, () -> x.taken(node, 0, 0));
            Due.fails("takenOctet(" + node + ", 0, 0)", IndexOutOfBoundsException.class,
                    () -> x.takenOctet(node, 0, 0));
        }
        Due.is("send(0, 5, 0, 1)", 0, () -> x.send(0, 5, 0, 1));
        x.run(1);
        Due.is("state(2), the flip at 0 being gone", 2, () -> x.state(2));
        Due.is("run(19999)", 1, () -> x.run(19999));
        Due.is("error(NONE, 0), flips being gone", 0, () -> x.error(CanBits.NONE, 0));
        Due.is("state(0), the flip at 19999 being gone", 0, () -> x.state(0));
        Due.is("taken(1, NONE, 0), the filter being gone", 1, () -> x.taken(1, CanBits.NONE, 0));
        Due.is("taken(2, NONE, 0), the filter being gone", 1, () -> x.taken(2, CanBits.NONE, 0));
        Due.is("takenOctet(1, 0, 0), octets being gone", 0, () -> x.takenOctet(1, 0, 0));
    }

    private static void takesAnew(CanBits x) {
        for (int i = 0; i < 60; i++) {
            x.nodes(2);
            x.send(0, 5, 2, 15);
            x.octet(0, 63, i);
            x.run(1000);
            Due.is("taken(1, NONE, 0) of each beginning", 1, () -> x.taken(1, CanBits.NONE, 0));
            Due.is("takenOctet(1, 0, 63) of each beginning", i, octetOf(x));
        }
    }

    private static Due.Call octetOf(CanBits x) {
        return () -> x.takenOctet(1, 0, 63);
    }

    private static void forgetsInTheMiddle(CanBits x) {
        x.nodes(2);
        x.send(0, 5, 0, 8);
        x.run(30);
        Due.is("state(0) in the middle", 1, () -> x.state(0));
        Due.is("state(1) in the middle", 2, () -> x.state(1));
        x.nodes(2);
        Due.is("state(0) behind nodes(2)", 0, () -> x.state(0));
        Due.is("run(50) behind nodes(2)", 0, () -> x.run(50));
        Due.is("bit(0) behind nodes(2)", 1, () -> x.bit(0));
        Due.is("bit(49) behind nodes(2)", 1, () -> x.bit(49));
    }

    public static void main(String[] args) {
        CanBits x = new CanBits();
        refuses(x);
        counts(x);
        noNodes(x);
        beginsAnew(x);
        takesAnew(x);
        forgetsInTheMiddle(x);
        Due.end();
    }
}
