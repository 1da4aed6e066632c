/** Promise 4: octet. */
public final class OctetTest {
    private static final Class<?> ARGUMENT = IllegalArgumentException.class;
    private static final Class<?> INDEX = IndexOutOfBoundsException.class;
    private static final Class<?> STATE = IllegalStateException.class;

    private static void lengths() {
        int[] flexible = {0, 1, 2, 3, 4, 5, 6, 7, 8, 12, 16, 20, 24, 32, 48, 64};
        for (int k = 0; k < 6; k++) {
            CanBits x = new CanBits();
            for (int code = 0; code < 16; code++) {
                int count = k > 3 ? 0 : k > 1 ? flexible[code] : Math.min(code, 8);
                int frame = x.send(0, 1, k, code);
                String name = " of kind " + k + ", code " + code;
                if (count > 0) {
                    Due.goes("octet " + (count - 1) + name, () -> x.octet(frame, count - 1, 255));
                    Due.goes("octet 0" + name, () -> x.octet(frame, 0, 0));
                }
                Due.stops("octet " + count + name, INDEX, () -> x.octet(frame, count, 0));
                Due.stops("octet -1" + name, INDEX, () -> x.octet(frame, -1, 0));
            }
        }
    }

    private static void refuses() {
        CanBits x = new CanBits();
        Due.stops("octet of no frame", INDEX, () -> x.octet(0, 0, 0));
        x.send(0, 1, 0, 2);
        Due.stops("octet of frame 1", INDEX, () -> x.octet(1, 0, 0));
        Due.stops("octet of frame -1", INDEX, () -> x.octet(-1, 0, 0));
        Due.stops("octet -1 that is -1", INDEX, () -> x.octet(0, -1, -1));
        Due.stops("octet that is -1", ARGUMENT, () -> x.octet(0, 0, -1));
        Due.stops("octet that is 256", ARGUMENT, () -> x.octet(0, 0, 256));
        Due.stops("the most octet", ARGUMENT, () -> x.octet(0, 0, Integer.MAX_VALUE));
        Due.goes("octet that is 255", () -> x.octet(0, 0, 255));
        x.run(100);
        Due.is("takenOctet(1, 0, 0)", 255, () -> x.takenOctet(1, 0, 0));
        Due.is("takenOctet(1, 0, 1)", 0, () -> x.takenOctet(1, 0, 1));
    }

    private static void whileSent() {
        CanBits x = new CanBits();
        x.send(0, 1, 0, 1);
        x.send(1, 2, 0, 1);
        x.send(0, 3, 0, 1);
        Due.goes("octet of a quiet node", () -> x.octet(0, 0, 7));
        x.run(1);
        Due.stops("octet of a frame being sent", STATE, () -> x.octet(0, 0, 8));
        Due.stops("octet of the other one being sent", STATE, () -> x.octet(1, 0, 8));
        Due.stops("a wrong octet of it", ARGUMENT, () -> x.octet(0, 0, 256));
        Due.stops("an octet of it that is not there", INDEX, () -> x.octet(0, 1, 256));
        Due.goes("octet of a frame that waits", () -> x.octet(2, 0, 9));
        x.run(20);
        Due.is("state(1), the arbitration being lost", 2, () -> x.state(1));
        Due.goes("octet of the frame that lost", () -> x.octet(1, 0, 10));
        x.run(40);
        Due.is("done(NONE, 0)", 1, () -> x.done(CanBits.NONE, 0));
        Due.stops("octet of a frame that is done", STATE, () -> x.octet(0, 0, 8));
        x.run(300);
        Due.is("takenOctet(1, 0, 0)", 7, () -> x.takenOctet(1, 0, 0));
        Due.is("takenOctet(0, 0, 0)", 10, () -> x.takenOctet(0, 0, 0));
        Due.is("takenOctet(1, 1, 0)", 9, () -> x.takenOctet(1, 1, 0));
    }

    /** A frame whose sending ended by an error can be changed before it is sent again. */
    private static void behindAnError() {
        CanBits x = new CanBits();
        x.nodes(1);
        x.send(0, 1, 0, 1);
        x.run(1);
        Due.stops("octet while it is sent", STATE, () -> x.octet(0, 0, 255));
        x.run(Rows.row(1, 0, 1, 0).length() - 9);
        Due.is("state(0)", 3, () -> x.state(0));
        Due.goes("octet while it is flagged", () -> x.octet(0, 0, 255));
        Due.is("stuffed(0)", Rows.row(1, 0, 1, 255).length(), () -> x.stuffed(0));
    }

    public static void main(String[] args) {
        lengths();
        refuses();
        whileSent();
        behindAnError();
        Due.end();
    }
}
