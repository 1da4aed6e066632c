/** Promise 1: a new object. */
public final class NewObjectTest {
    public static void main(String[] args) {
        CanBits x = new CanBits();
        Due.is("NONE", -1, () -> CanBits.NONE);
        Due.is("time()", 0, x::time);
        for (int i = 0; i < 2; i++) {
            int node = i;
            Due.is("state(" + node + ")", 0, () -> x.state(node));
            Due.is("waiting(" + node + ")", 0, () -> x.waiting(node));
            Due.is("taken(" + node + ", NONE, 0)", 0, () -> x.taken(node, CanBits.NONE, 0));
        }
        Due.fails("state(2)", IndexOutOfBoundsException.class, () -> x.state(2));
        Due.is("done(NONE, 0)", 0, () -> x.done(CanBits.NONE, 0));
        Due.is("error(NONE, 0)", 0, () -> x.error(CanBits.NONE, 0));
        Due.fails("bit(0)", ArrayIndexOutOfBoundsException.class, () -> x.bit(0));
        Due.fails("stuffed(0)", IndexOutOfBoundsException.class, () -> x.stuffed(0));
        Due.is("send(1, 2047, 0, 0)", 0, () -> x.send(1, 2047, 0, 0));
        Due.is("run(100)", 1, () -> x.run(100));
        Due.is("taken(0, NONE, 0)", 1, () -> x.taken(0, CanBits.NONE, 0));

        CanBits other = new CanBits();
        Due.is("time() of another object", 0, other::time);
        Due.is("send of another object", 0, () -> other.send(0, 1, 0, 0));
        Due.end();
    }
}
