/** Promise 10: bit. */
public final class BitTest {
    private static final Class<?> INDEX = ArrayIndexOutOfBoundsException.class;

    public static void main(String[] args) {
        CanBits x = new CanBits();
        Due.fails("bit(0) at 0", INDEX, () -> x.bit(0));
        x.run(3);
        Due.is("bit(2) of a quiet bus", 1, () -> x.bit(2));
        Due.fails("bit(3)", INDEX, () -> x.bit(3));
        Due.fails("bit(-1)", INDEX, () -> x.bit(-1));
        Due.fails("bit(least)", INDEX, () -> x.bit(Integer.MIN_VALUE));
        Due.fails("bit(most)", INDEX, () -> x.bit(Integer.MAX_VALUE));

        // Two nodes: where one of them puts 0 the bus is 0, up to where the other gives way.
        x.nodes(3);
        x.send(0, 1365, 0, 0);
        x.send(1, 1364, 0, 0);
        x.run(20000);
        String row = Rows.row(1364, 0, 0);
        String text = row.substring(0, row.length() - 9) + "0" + row.substring(row.length() - 8) + "111";
        String next = Rows.row(1365, 0, 0);
        text += next.substring(0, next.length() - 9) + "0" + next.substring(next.length() - 8);
        for (int i = 0; i < text.length(); i++) {
            int at = i;
            Due.is("bit(" + at + ")", text.charAt(at) - '0', () -> x.bit(at));
        }
        Due.is("bit(19999)", 1, () -> x.bit(19999));
        Due.fails("bit(20000)", INDEX, () -> x.bit(20000));
        Due.end();
    }
}
