/** A busy bus, and all the calls that it must refuse at a moment. */
final class Refusals {
    private static final Class<?> ARGUMENT = IllegalArgumentException.class;
    private static final Class<?> INDEX = IndexOutOfBoundsException.class;
    private static final Class<?> STATE = IllegalStateException.class;
    private static final int MOST = Integer.MAX_VALUE;
    private static final int LEAST = Integer.MIN_VALUE;
    private static final int NONE = CanBits.NONE;

    private Refusals() {
    }

    /** Three nodes with an arbitration, a filter, and errors of a listener and a sender on their way. */
    static CanBits busy() {
        CanBits x = new CanBits();
        x.nodes(3);
        x.send(0, 100, 0, 2);
        x.octet(0, 0, 200);
        x.octet(0, 1, 3);
        x.send(1, 101, 2, 3);
        x.octet(1, 2, 9);
        x.send(0, 100 << 18, 5, 4);
        x.filter(2, 1, 0);
        x.flip(2, 30);
        x.flip(0, 110);
        x.flip(1, 140);
        return x;
    }

    static void all(CanBits x) {
        ofNodesAndFrames(x);
        ofOctets(x);
        ofTimes(x);
        ofThingsTold(x);
        ofTakings(x);
    }

    private static void ofNodesAndFrames(CanBits x) {
        int nodes = Look.nodes(x);
        Due.stops("nodes(33)", ARGUMENT, () -> x.nodes(33));
        Due.stops("nodes(-1)", NegativeArraySizeException.class, () -> x.nodes(-1));
        for (int node : new int[] {-1, nodes, MOST}) {
            Due.fails("send of node " + node, INDEX, () -> x.send(node, 0, 0, 0));
            Due.stops("filter of node " + node, INDEX, () -> x.filter(node, 2047, 2047));
            Due.stops("flip of node " + node, INDEX, () -> x.flip(node, 19999));
            Due.fails("state of node " + node, INDEX, () -> x.state(node));
            Due.fails("waiting of node " + node, INDEX, () -> x.waiting(node));
        }
        Due.fails("send of all that is wrong", INDEX, () -> x.send(nodes, -1, 6, 16));
        Due.fails("send of a wrong kind", ARGUMENT, () -> x.send(0, 0, 6, 0));
        Due.fails("send of kind -1", ARGUMENT, () -> x.send(0, 0, -1, 0));
        Due.fails("send of identifier 2048", ARGUMENT, () -> x.send(0, 2048, 0, 0));
        Due.fails("send of identifier -1", ARGUMENT, () -> x.send(0, -1, 1, 0));
        Due.fails("send of length 16", ARGUMENT, () -> x.send(0, 0, 0, 16));
        Due.fails("send of length -1", ARGUMENT, () -> x.send(0, 0, 0, -1));
    }

    private static void ofOctets(CanBits x) {
        int frames = Look.frames(x);
        Due.stops("octet of frame -1", INDEX, () -> x.octet(-1, 0, 1));
        Due.stops("octet of one frame more", INDEX, () -> x.octet(frames, 0, 1));
        Due.fails("stuffed(-1)", INDEX, () -> x.stuffed(-1));
        Due.fails("stuffed of one frame more", INDEX, () -> x.stuffed(frames));
        Due.stops("octet 2 of two", INDEX, () -> x.octet(0, 2, 1));
        Due.stops("octet -1", INDEX, () -> x.octet(0, -1, 1));
        Due.stops("octet 2 of two that is 256", INDEX, () -> x.octet(0, 2, 256));
        Due.stops("octet 0 that is 256", ARGUMENT, () -> x.octet(0, 0, 256));
        Due.stops("octet 0 that is -1", ARGUMENT, () -> x.octet(0, 0, -1));
        boolean isDone = x.done(NONE, 0) > 0 && x.done(0, 0) == 0;
        // Frame 0 is the first of all: when its node is sending it is sending that, unless it is done.
        if (isDone || x.state(0) == 1) {
            Due.stops("octet of a frame sent or done", STATE, () -> x.octet(0, 0, 77));
        }
    }

    private static void ofTimes(CanBits x) {
        int time = x.time();
        Due.stops("flip(0, time() - 1)", ARGUMENT, () -> x.flip(0, time - 1));
        Due.stops("flip(0, 20000)", ARGUMENT, () -> x.flip(0, 20000));
        Due.fails("run(-1)", ARGUMENT, () -> x.run(-1));
        Due.fails("run of one bit too many", STATE, () -> x.run(20001 - time));
        Due.fails("run(most)", STATE, () -> x.run(MOST));
        Due.fails("bit(-1)", ArrayIndexOutOfBoundsException.class, () -> x.bit(-1));
        Due.fails("bit(time())", ArrayIndexOutOfBoundsException.class, () -> x.bit(time));
        Due.fails("check(3, 0, 0)", ARGUMENT, () -> x.check(3, 0, 0));
        Due.fails("check(-1, 1, 0)", ARGUMENT, () -> x.check(-1, 1, 0));
        Due.fails("check(0, 1, 0)", INDEX, () -> x.check(0, 1, 0));
        Due.fails("check(1, -1, 0)", INDEX, () -> x.check(1, -1, 0));
        Due.fails("check(2, 0, time() + 1)", INDEX, () -> x.check(2, 0, time + 1));
    }

    private static void ofThingsTold(CanBits x) {
        int done = x.done(NONE, 0);
        int errors = x.error(NONE, 0);
        for (int i : new int[] {LEAST, -2, done, MOST}) {
            Due.fails("done(" + i + ", 0)", INDEX, () -> x.done(i, 0));
        }
        for (int i : new int[] {LEAST, -2, errors, MOST}) {
            Due.fails("error(" + i + ", 0)", INDEX, () -> x.error(i, 0));
        }
        Due.fails("done(NONE, 1)", INDEX, () -> x.done(NONE, 1));
        Due.fails("error(NONE, 1)", INDEX, () -> x.error(NONE, 1));
        Due.fails("done(0, 2)", done > 0 ? ARGUMENT : INDEX, () -> x.done(0, 2));
        Due.fails("error(0, 3)", errors > 0 ? ARGUMENT : INDEX, () -> x.error(0, 3));
        Due.fails("done(0, -1)", done > 0 ? ARGUMENT : INDEX, () -> x.done(0, -1));
        Due.fails("error(0, -1)", errors > 0 ? ARGUMENT : INDEX, () -> x.error(0, -1));
    }

    private static void ofTakings(CanBits x) {
        for (int node = 0; node < Look.nodes(x); node++) {
            int of = node;
            int taken = x.taken(node, NONE, 0);
            int octets = taken > 0 ? x.taken(node, 0, 3) : 0;
            Due.fails("taken(" + of + ", count, 0)", INDEX, () -> x.taken(of, taken, 0));
            Due.fails("taken(" + of + ", -2, 0)", INDEX, () -> x.taken(of, -2, 0));
            Due.fails("taken(" + of + ", NONE, 1)", INDEX, () -> x.taken(of, NONE, 1));
            Due.fails("taken(" + of + ", 0, 5)", taken > 0 ? ARGUMENT : INDEX, () -> x.taken(of, 0, 5));
            Due.fails("taken(" + of + ", 0, -1)", taken > 0 ? ARGUMENT : INDEX, () -> x.taken(of, 0, -1));
            Due.fails("takenOctet(" + of + ", NONE, 0)", INDEX, () -> x.takenOctet(of, NONE, 0));
            Due.fails("takenOctet(" + of + ", count, 0)", INDEX, () -> x.takenOctet(of, taken, 0));
            Due.fails("takenOctet(" + of + ", 0, -1)", INDEX, () -> x.takenOctet(of, 0, -1));
            Due.fails("takenOctet(" + of + ", 0, octets)", INDEX, () -> x.takenOctet(of, 0, octets));
        }
    }
}
