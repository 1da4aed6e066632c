/** Promise 14: done. */
public final class DoneTest {
    private static final Class<?> ARGUMENT = IllegalArgumentException.class;
    private static final Class<?> INDEX = IndexOutOfBoundsException.class;

    private static void refuses() {
        CanBits x = new CanBits();
        Due.fails("done(0, 0) of none", INDEX, () -> x.done(0, 0));
        Due.fails("done(0, 2) of none", INDEX, () -> x.done(0, 2));
        x.send(0, 291, 0, 2);
        x.octet(0, 0, 165);
        x.octet(0, 1, 90);
        x.run(61);
        Due.is("done(NONE, 0)", 1, () -> x.done(CanBits.NONE, 0));
        Due.is("done(0, 0)", 0, () -> x.done(0, 0));
        Due.is("done(0, 1)", 60, () -> x.done(0, 1));
        Due.fails("done(0, 2)", ARGUMENT, () -> x.done(0, 2));
        Due.fails("done(0, -1)", ARGUMENT, () -> x.done(0, -1));
        Due.fails("done(1, 0)", INDEX, () -> x.done(1, 0));
        Due.fails("done(1, 2)", INDEX, () -> x.done(1, 2));
        Due.fails("done(NONE, 1)", INDEX, () -> x.done(CanBits.NONE, 1));
        Due.fails("done(-2, 0)", INDEX, () -> x.done(-2, 0));
        Due.fails("done(most, 0)", INDEX, () -> x.done(Integer.MAX_VALUE, 0));
    }

    /** Two nodes that send the very same frame are both done with it. */
    private static void alike() {
        CanBits x = new CanBits();
        x.nodes(3);
        x.send(1, 5, 0, 1);
        x.send(0, 5, 0, 1);
        int length = Rows.row(5, 0, 1).length();
        Due.is("run", 2, () -> x.run(length));
        Due.is("done(0, 0): by nodes", 1, () -> x.done(0, 0));
        Due.is("done(1, 0)", 0, () -> x.done(1, 0));
        Due.is("done(0, 1)", length - 1, () -> x.done(0, 1));
        Due.is("done(1, 1)", length - 1, () -> x.done(1, 1));
        Due.is("taken(2, NONE, 0)", 1, () -> x.taken(2, CanBits.NONE, 0));
    }

    /** A 0 seen at the sender's last END is a bit error: the frame was taken, but is not done, and is sent again. */
    private static void lastEnd() {
        CanBits x = new CanBits();
        x.send(0, 5, 0, 1);
        int length = Rows.row(5, 0, 1).length();
        x.flip(0, length - 1);
        x.run(length);
        Due.is("done(NONE, 0)", 0, () -> x.done(CanBits.NONE, 0));
        Due.is("error(0, 0)", 0, () -> x.error(0, 0));
        Due.is("error(0, 2)", length - 1, () -> x.error(0, 2));
        Due.is("waiting(0)", 1, () -> x.waiting(0));
        x.run(200);
        Due.is("done(NONE, 0), sent again", 1, () -> x.done(CanBits.NONE, 0));
        Due.is("taken(1, NONE, 0), taken twice", 2, () -> x.taken(1, CanBits.NONE, 0));
    }

    public static void main(String[] args) {
        refuses();
        alike();
        lastEnd();
        Due.end();
    }
}
