/** "A call that throws changes nothing": a bus that refused calls goes on as its twin that had none. */
public final class RefusedTest {
    private static void atEachBit() {
        for (int t = 0; t < 330; t++) {
            CanBits twin = Refusals.busy();
            CanBits x = Refusals.busy();
            twin.run(t);
            x.run(t);
            Refusals.all(x);
            Due.same("refused at " + t + ", at once", Look.at(twin), Look.at(x));
            twin.run(400);
            x.run(400);
            Due.same("refused at " + t + ", 400 bits later", Look.at(twin), Look.at(x));
        }
    }

    /** The twin's states, each of which the moments above must meet. */
    private static void meetsAllStates() {
        boolean[] met = new boolean[7];
        CanBits x = Refusals.busy();
        for (int t = 0; t < 330; t++) {
            for (int node = 0; node < 3; node++) {
                met[x.state(node)] = true;
            }
            x.run(1);
        }
        for (int state = 0; state < 7; state++) {
            int of = state;
            Due.is("state " + state + " is met", 1, () -> met[of] ? 1 : 0);
        }
        Due.is("all frames are done in the end", 3, () -> x.done(CanBits.NONE, 0) + x.run(200));
    }

    private static void withTwoHundredFrames() {
        CanBits twin = new CanBits();
        CanBits x = new CanBits();
        for (CanBits bus : new CanBits[] {twin, x}) {
            for (int i = 0; i < 200; i++) {
                bus.send(i % 2, 1300, 4, 3);
            }
            bus.run(100);
        }
        for (int i = 0; i < 3; i++) {
            // The refused ones would be the first, or the last, or another node's.
            Due.fails("a frame more", IllegalStateException.class, () -> x.send(0, 0, 0, 0));
            Due.fails("a frame more", IllegalStateException.class, () -> x.send(0, 2047, 5, 15));
            Due.fails("a frame more", IllegalStateException.class, () -> x.send(1, 0, 0, 0));
        }
        Due.same("at once", Look.at(twin), Look.at(x));
        twin.run(2000);
        x.run(2000);
        Due.same("2000 bits later", Look.at(twin), Look.at(x));
    }

    private static void withAllBits() {
        CanBits twin = Refusals.busy();
        CanBits x = Refusals.busy();
        twin.run(20000);
        x.run(20000);
        Refusals.all(x);
        Due.fails("run(1)", IllegalStateException.class, () -> x.run(1));
        Due.stops("flip(0, 19999)", IllegalArgumentException.class, () -> x.flip(0, 19999));
        Due.same("at 20000", Look.at(twin), Look.at(x));
    }

    /** More than one exception fits: the one that the call names first is thrown. */
    private static void namedFirst() {
        Class<?> argument = IllegalArgumentException.class;
        Class<?> index = IndexOutOfBoundsException.class;
        Class<?> state = IllegalStateException.class;
        CanBits x = new CanBits();
        for (int i = 0; i < 200; i++) {
            x.send(0, 1, 0, 1);
        }
        x.run(1);
        Due.fails("send: node, kind, 200 frames", index, () -> x.send(2, 0, 6, 0));
        Due.fails("send: node, 200 frames", index, () -> x.send(-1, 0, 0, 0));
        Due.fails("send: kind, 200 frames", argument, () -> x.send(0, 0, 6, 0));
        Due.fails("send: identifier, 200 frames", argument, () -> x.send(0, 2048, 0, 0));
        Due.fails("send: length, 200 frames", argument, () -> x.send(0, 0, 0, 16));
        Due.fails("send: 200 frames", state, () -> x.send(0, 0, 0, 0));
        Due.stops("octet: frame, value", index, () -> x.octet(200, 0, 256));
        Due.stops("octet: octet, value, SENDING", index, () -> x.octet(0, 1, 256));
        Due.stops("octet: octet, SENDING", index, () -> x.octet(0, 1, 0));
        Due.stops("octet: value, SENDING", argument, () -> x.octet(0, 0, 256));
        Due.stops("octet: SENDING", state, () -> x.octet(0, 0, 0));
        x.run(59);
        Due.is("done", 1, () -> x.done(CanBits.NONE, 0));
        Due.stops("octet: octet, value, DONE", index, () -> x.octet(0, -1, -1));
        Due.stops("octet: value, DONE", argument, () -> x.octet(0, 0, -1));
        Due.stops("octet: DONE", state, () -> x.octet(0, 0, 0));
        Due.stops("flip: node, time", index, () -> x.flip(2, 20000));
        Due.stops("flip: node, time gone by", index, () -> x.flip(-1, 0));
        Due.fails("check: kind, range", argument, () -> x.check(3, 1, 0));
        Due.fails("done: thing, what", index, () -> x.done(1, 2));
        Due.fails("taken: node, what", index, () -> x.taken(2, 0, 5));
        Due.fails("taken: thing, what", index, () -> x.taken(1, 1, 5));
        Due.fails("error: thing, what", index, () -> x.error(0, 3));
    }

    public static void main(String[] args) {
        Due.sentence("A call that throws changes nothing (at each bit)", RefusedTest::atEachBit);
        Due.sentence("A call that throws changes nothing (in each state)", RefusedTest::meetsAllStates);
        Due.sentence("A call that throws changes nothing (200 frames)", RefusedTest::withTwoHundredFrames);
        Due.sentence("A call that throws changes nothing (20000 bits)", RefusedTest::withAllBits);
        Due.sentence("where several exceptions that a call names fit, the one named first is thrown",
                RefusedTest::namedFirst);
        Due.end();
    }
}
