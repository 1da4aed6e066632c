/** Promises 8 and 9: run and time. */
public final class RunTest {
    private static final Class<?> ARGUMENT = IllegalArgumentException.class;
    private static final Class<?> STATE = IllegalStateException.class;

    private static void limits() {
        CanBits x = new CanBits();
        Due.fails("run(-1)", ARGUMENT, () -> x.run(-1));
        Due.fails("run(least)", ARGUMENT, () -> x.run(Integer.MIN_VALUE));
        Due.fails("run(20001)", STATE, () -> x.run(20001));
        Due.fails("run(most)", STATE, () -> x.run(Integer.MAX_VALUE));
        Due.is("time()", 0, x::time);
        Due.is("run(0)", 0, () -> x.run(0));
        Due.is("time()", 0, x::time);
        Due.is("run(1)", 0, () -> x.run(1));
        Due.is("time()", 1, x::time);
        Due.fails("run(most) at 1", STATE, () -> x.run(Integer.MAX_VALUE));
        Due.fails("run(20000) at 1", STATE, () -> x.run(20000));
        Due.is("run(19999) at 1", 0, () -> x.run(19999));
        Due.is("time()", 20000, x::time);
        Due.is("run(0) at the end", 0, () -> x.run(0));
        Due.fails("run(1) at the end", STATE, () -> x.run(1));
        Due.fails("run(-1) at the end", ARGUMENT, () -> x.run(-1));
        Due.is("time()", 20000, x::time);
    }

    private static void counts() {
        CanBits x = new CanBits();
        x.send(0, 291, 0, 2);
        x.octet(0, 0, 165);
        x.octet(0, 1, 90);
        x.send(0, 292, 0, 0);
        int next = Rows.row(292, 0, 0).length();
        Due.is("run up to the last END", 0, () -> x.run(60));
        Due.is("run of the last END", 1, () -> x.run(1));
        Due.is("run behind it", 0, () -> x.run(3 + next - 1));
        Due.is("run of the next last END", 1, () -> x.run(1));
        Due.is("time()", 61 + 3 + next, x::time);
        Due.is("run behind all", 0, () -> x.run(100));
    }

    /** A full house: every node has frames to the very end, and nothing runs over. */
    private static void full() {
        CanBits x = new CanBits();
        x.nodes(32);
        for (int i = 0; i < 200; i++) {
            x.send(i % 32, 2047 - i % 7, 4, i % 16);
        }
        x.run(20000);
        int done = x.done(CanBits.NONE, 0);
        Due.is("frames done and waiting", 200, () -> {
            int sum = done;
            for (int i = 0; i < 32; i++) {
                sum += x.waiting(i);
            }
            return sum;
        });
    }

    public static void main(String[] args) {
        limits();
        counts();
        full();
        Due.end();
    }
}
