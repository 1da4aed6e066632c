/** Promise 13: waiting. */
public final class WaitingTest {
    public static void main(String[] args) {
        CanBits x = new CanBits();
        Due.is("waiting(0)", 0, () -> x.waiting(0));
        Due.fails("waiting(2)", IndexOutOfBoundsException.class, () -> x.waiting(2));
        Due.fails("waiting(-1)", IndexOutOfBoundsException.class, () -> x.waiting(-1));
        x.send(0, 291, 0, 2);
        x.octet(0, 0, 165);
        x.octet(0, 1, 90);
        x.send(0, 292, 0, 2);
        x.send(1, 293, 0, 2);
        Due.is("waiting(0), two told", 2, () -> x.waiting(0));
        Due.is("waiting(1), one told", 1, () -> x.waiting(1));
        x.run(60);
        Due.is("waiting(0), one being sent", 2, () -> x.waiting(0));
        Due.is("waiting(1), the arbitration being lost", 1, () -> x.waiting(1));
        x.run(1);
        Due.is("waiting(0), one being done", 1, () -> x.waiting(0));
        x.run(200);
        Due.is("waiting(0), all being done", 0, () -> x.waiting(0));
        Due.is("waiting(1), all being done", 0, () -> x.waiting(1));

        // What nobody acknowledges stays in its row.
        x.nodes(1);
        x.send(0, 5, 0, 0);
        x.run(1000);
        Due.is("waiting(0) of a lone node", 1, () -> x.waiting(0));
        Due.is("done of a lone node", 0, () -> x.done(CanBits.NONE, 0));
        Due.end();
    }
}
