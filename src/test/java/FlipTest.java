/** Promise 7: flip. */
public final class FlipTest {
    private static final Class<?> ARGUMENT = IllegalArgumentException.class;
    private static final Class<?> INDEX = IndexOutOfBoundsException.class;

    public static void main(String[] args) {
        CanBits x = new CanBits();
        Due.stops("flip(2, 0)", INDEX, () -> x.flip(2, 0));
        Due.stops("flip(-1, 0)", INDEX, () -> x.flip(-1, 0));
        Due.stops("flip(2, -1)", INDEX, () -> x.flip(2, -1));
        Due.stops("flip(0, -1)", ARGUMENT, () -> x.flip(0, -1));
        Due.stops("flip(0, 20000)", ARGUMENT, () -> x.flip(0, 20000));
        Due.stops("flip(0, most)", ARGUMENT, () -> x.flip(0, Integer.MAX_VALUE));
        Due.stops("flip(0, least)", ARGUMENT, () -> x.flip(0, Integer.MIN_VALUE));
        Due.goes("flip(0, 19999)", () -> x.flip(0, 19999));
        x.run(5);
        Due.stops("flip(0, 4)", ARGUMENT, () -> x.flip(0, 4));
        Due.goes("flip(0, 5)", () -> x.flip(0, 5));
        Due.goes("flip(0, 5) again", () -> x.flip(0, 5));
        x.run(1);
        Due.is("bit(5): the bus itself is not turned", 1, () -> x.bit(5));
        Due.is("state(0): it saw 0", 2, () -> x.state(0));
        Due.is("state(1): it saw 1", 0, () -> x.state(1));
        x.nodes(2);
        x.run(20000);
        Due.stops("flip(0, 19999) that has gone by", ARGUMENT, () -> x.flip(0, 19999));

        CanBits last = new CanBits();
        last.flip(1, 19999);
        last.run(20000);
        Due.is("state(1) behind a flip at 19999", 2, () -> last.state(1));

        // A flip turns 0 to 1, too, and each node has its own.
        CanBits many = new CanBits();
        many.nodes(32);
        many.send(0, 5, 0, 0);
        many.flip(31, 0);
        many.run(1);
        Due.is("state(31): it saw 1", 0, () -> many.state(31));
        Due.is("state(30): it saw 0", 2, () -> many.state(30));
        Due.is("bit(0)", 0, () -> many.bit(0));
        Due.end();
    }
}
