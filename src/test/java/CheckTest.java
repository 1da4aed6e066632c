/** Promise 11: check. */
public final class CheckTest {
    private static final Class<?> ARGUMENT = IllegalArgumentException.class;
    private static final Class<?> INDEX = IndexOutOfBoundsException.class;

    public static void main(String[] args) {
        CanBits x = new CanBits();
        Due.is("check(0, 0, 0)", 0, () -> x.check(0, 0, 0));
        Due.is("check(1, 0, 0)", 65536, () -> x.check(1, 0, 0));
        Due.is("check(2, 0, 0)", 1048576, () -> x.check(2, 0, 0));
        Due.fails("check(0, 0, 1) at 0", INDEX, () -> x.check(0, 0, 1));

        // A row without stuff bits; bits 19 to 82 are the characters 1 to 8.
        x.send(0, 133, 0, 9);
        for (int i = 0; i < 8; i++) {
            x.octet(0, i, '1' + i);
        }
        x.run(108);
        Due.is("check(0, 19, 83)", 6196, () -> x.check(0, 19, 83));
        Due.is("check(1, 19, 83)", 44003, () -> x.check(1, 19, 83));
        Due.is("check(2, 19, 83)", 1942690, () -> x.check(2, 19, 83));
        Due.is("check of all and its check", 0, () -> x.check(0, 0, 98));
        Due.is("check(0, 0, 1): one 0", 0, () -> x.check(0, 0, 1));
        Due.is("check(0, 107, 108): one 1", 17817, () -> x.check(0, 107, 108));
        Due.is("check(1, 0, 1): one 0", 92251, () -> x.check(1, 0, 1));
        Due.is("check(1, 107, 108): one 1", 0, () -> x.check(1, 107, 108));
        Due.is("check(2, 0, 1): one 0", 1058969, () -> x.check(2, 0, 1));
        Due.is("check(2, 107, 108): one 1", 0, () -> x.check(2, 107, 108));
        Due.is("check(0, 108, 108)", 0, () -> x.check(0, 108, 108));

        Due.fails("check(3, 0, 0)", ARGUMENT, () -> x.check(3, 0, 0));
        Due.fails("check(-1, 0, 0)", ARGUMENT, () -> x.check(-1, 0, 0));
        Due.fails("check(-1, -1, -1)", ARGUMENT, () -> x.check(-1, -1, -1));
        Due.fails("check(0, -1, 5)", INDEX, () -> x.check(0, -1, 5));
        Due.fails("check(0, 5, 4)", INDEX, () -> x.check(0, 5, 4));
        Due.fails("check(0, 0, 109)", INDEX, () -> x.check(0, 0, 109));
        Due.fails("check(0, 109, 109)", INDEX, () -> x.check(0, 109, 109));
        Due.fails("check(0, least, most)", INDEX, () -> x.check(0, Integer.MIN_VALUE, Integer.MAX_VALUE));

        // What check works out disturbs nothing that is being sent or heard.
        x.send(0, 5, 2, 9);
        x.run(100);
        x.check(1, 3, 90);
        Due.is("run behind a check", 1, () -> x.run(200));
        Due.is("errors", 0, () -> x.error(CanBits.NONE, 0));
        Due.end();
    }
}
